section
theorem pk_us {f : Nat → Int32} {k : Nat} {x : Int32} : upd f k x k = x := if_pos rfl
theorem pk_un {f : Nat → Int32} {k j : Nat} {x : Int32} (h : j ≠ k) : upd f k x j = f j := if_neg h
theorem pk_sub {a b : Nat} (h : b ≤ a) : nI a - nI b = nI (a - b) := by
  obtain ⟨c, rfl⟩ : ∃ c, a = c + b := ⟨a - b, by omega⟩
  rw [← nI_add, Int32.add_sub_cancel, Nat.add_sub_cancel]
theorem pk_m1 (n : Nat) : nI (n + 1) + (-1) = nI n := by
  rw [← nI_1, Int32.add_assoc, show (1 : Int32) + (-1) = 0 from rfl, Int32.add_zero]
theorem pk_mul (a b : Nat) : nI a * nI b = nI (a * b) := (Int32.ofNat_mul a b).symm
theorem pk_sub_toInt {a b : Nat} (ha : a < 2 ^ 30) (hb : b < 2 ^ 30) : (nI a - nI b).toInt = (a : Int) - b := by
  rw [Int32.toInt_sub, nI_toInt (by omega), nI_toInt (by omega)]
  exact Int.bmod_eq_of_le (by omega) (by omega)
theorem pk_sneg {a b : Nat} (hb : b < 2 ^ 30) (h : a < b) : nI a - nI b < 0 := by
  rw [Int32.lt_iff_toInt_lt, pk_sub_toInt (by omega) hb, show (0 : Int32).toInt = 0 from by decide]
  omega
theorem pk_ix (x : Int32) {n : Nat} (hn : n < 2 ^ 31) : x < 0 ∨ nI n ≤ x ∨ ∃ j : Nat, j < n ∧ x = nI j := by
  by_cases h : x < 0
  · exact Or.inl h
  · obtain ⟨j, hj, rfl⟩ := nI_of h
    by_cases h2 : j < n
    · exact Or.inr (Or.inr ⟨j, h2, rfl⟩)
    · exact Or.inr (Or.inl (nI_le (by omega) hj))
theorem pk_le {x y : Int32} {A B : Prop} (a b : Nat) (f : a ≤ b → A) (g : b < a → B) (hx : x = nI a := by rfl) (hy : y = nI b := by rfl) (ha : a < 2 ^ 31 := by omega) (hb : b < 2 ^ 31 := by omega) : (x ≤ y → A) ∧ (¬ x ≤ y → B) := by
  subst hx hy
  rw [nI_leI ha hb]
  exact ⟨f, fun z => g (by omega)⟩
theorem pk_lt {x y : Int32} {A B : Prop} (a b : Nat) (f : a < b → A) (g : b ≤ a → B) (hx : x = nI a := by rfl) (hy : y = nI b := by rfl) (ha : a < 2 ^ 31 := by omega) (hb : b < 2 ^ 31 := by omega) : (x < y → A) ∧ (¬ x < y → B) := by
  subst hx hy
  rw [nI_ltI ha hb]
  exact ⟨f, fun z => g (by omega)⟩
theorem pk_eq {x y : Int32} {A B : Prop} (a b : Nat) (f : a = b → A) (g : a ≠ b → B) (hx : x = nI a := by rfl) (hy : y = nI b := by rfl) (ha : a < 2 ^ 31 := by omega) (hb : b < 2 ^ 31 := by omega) : (x = y → A) ∧ (¬ x = y → B) := by
  subst hx hy
  rw [nI_eq ha hb]
  exact ⟨f, g⟩
theorem pk_in {x : Int32} (n N : Nat) (h : n < N) (hx : x = nI n := by rfl) (hN : N < 2 ^ 31 := by omega) : vp_in x N := by
  subst hx
  exact vp_in_nI h hN
theorem pk_cl {x : Int32} (n : Nat) (hx : x = nI n := by rfl) (h : n < 2 ^ 31 := by omega) : x.toNatClampNeg = n := by
  subst hx
  exact nI_clamp h
theorem pk_tn {n : Nat} (h : n < 2 ^ 32) : (nI n).toBitVec.toNat = n := Nat.mod_eq_of_lt h
theorem pk_and (x : Int32) {m : Int32} (k : Nat) (hm : m.toBitVec.toNat = 2 ^ k - 1) : x &&& m = nI (x.toBitVec.toNat % 2 ^ k) := by
  apply Int32.toBitVec_inj.mp
  apply BitVec.eq_of_toNat_eq
  rw [Int32.toBitVec_and, BitVec.toNat_and, hm, Nat.and_two_pow_sub_one_eq_mod]
  show _ = (BitVec.ofNat 32 _).toNat
  rw [BitVec.toNat_ofNat]
  exact (Nat.mod_eq_of_lt (Nat.lt_of_le_of_lt (Nat.mod_le _ _) x.toBitVec.isLt)).symm
theorem pk_andE (x : Int32) {m : Int32} (k : Nat) (hm : m.toBitVec.toNat = 2 ^ k - 1) : ∃ j : Nat, j < 2 ^ k ∧ x &&& m = nI j := ⟨_, Nat.mod_lt _ (Nat.two_pow_pos k), pk_and x k hm⟩
theorem pk_ushr (x s : Int32) (k : Nat) (hs : ((s.toUInt32 &&& Int32.toUInt32 31).toBitVec % 32).toNat = k) : (x.toUInt32 >>> (s.toUInt32 &&& Int32.toUInt32 31)).toInt32.toBitVec.toNat = x.toBitVec.toNat / 2 ^ k := by
  have e : (x.toUInt32 >>> (s.toUInt32 &&& Int32.toUInt32 31)).toInt32.toBitVec = x.toBitVec >>> k := by
    rw [← hs]
    exact UInt32.toBitVec_shiftRight _ _
  rw [e, BitVec.toNat_ushiftRight, Nat.shiftRight_eq_div_pow]
theorem pk_least (P : Nat → Prop) (h : ∃ k, P k) : ∃ k, P k ∧ ∀ j, j < k → ¬ P j := by
  obtain ⟨k, hk⟩ := h
  induction k using Nat.strongRecOn with
  | ind k ih =>
    by_cases e : ∃ j, j < k ∧ P j
    · obtain ⟨j, hj, pj⟩ := e
      exact ih j hj pj
    · exact ⟨k, hk, fun j hj pj => e ⟨j, hj, pj⟩⟩
end
section
section LLP
/-! A: numbers -/
theorem la_m {n : Nat} (h : 0 < n) : nI n + (-1) = nI (n - 1) := by
  obtain ⟨m, rfl⟩ : ∃ m, n = m + 1 := ⟨n - 1, by omega⟩
  exact pk_m1 m
theorem la_s {n : Nat} (h : 0 < n) : nI n - 1 = nI (n - 1) := by
  obtain ⟨m, rfl⟩ : ∃ m, n = m + 1 := ⟨n - 1, by omega⟩
  exact nI_pred m
theorem la_n1 {a : Nat} (h : a < 2 ^ 31) : ¬ nI a = -1 := by
  intro e
  have := nI_pos (n := a) h
  rw [e] at this
  exact this (by decide)
theorem la_1n {a : Nat} (h : a < 2 ^ 31) : ¬ (-1) = nI a := fun e => la_n1 h e.symm
theorem la_im {a b : Nat} (h : nI a = nI b) (ha : a < 2 ^ 31) (hb : b < 2 ^ 31) : a = b := (nI_eq ha hb).mp h
theorem la_m96 (a : Nat) : nI a * 96 = nI (a * 96) := pk_mul a 96
theorem la_m100 (a : Nat) : nI a * 100 = nI (a * 100) := pk_mul a 100
theorem la_m8 (a : Nat) : nI a * 8 = nI (a * 8) := pk_mul a 8
theorem la_m4 (a : Nat) : nI a * 4 = nI (a * 4) := pk_mul a 4
/-! B: strings in a text T, relative positions -/
def ll_oc (T O : Nat → Int32) (x : Nat) : Nat → Nat → Bool
  | 0, _ => true
  | d + 1, i => if T (x + i) = O i then ll_oc T O x d (i + 1) else false
theorem ll_oc_s {T O : Nat → Int32} {x d i : Nat} : ll_oc T O x (d + 1) i = if T (x + i) = O i then ll_oc T O x d (i + 1) else false := rfl
theorem ll_oc_hd {T O : Nat → Int32} {x d : Nat} (h : ll_oc T O x (d + 1) 0 = true) : T x = O 0 := by
  rw [ll_oc_s] at h
  by_cases e : T (x + 0) = O 0
  · exact e
  · rw [if_neg e] at h
    exact absurd h (by decide)
theorem ll_oc_cg {T O O' : Nat → Int32} {x : Nat} : ∀ d i, (∀ j, j < i + d → O j = O' j) → ll_oc T O x d i = ll_oc T O' x d i := by
  intro d
  induction d with
  | zero => intro i h; rfl
  | succ d ih =>
    intro i h
    rw [ll_oc_s, ll_oc_s, h i (by omega), ih (i + 1) (fun j hj => h j (by omega))]
def ll_fd (T O : Nat → Int32) (l n : Nat) : Nat → Nat → Option Nat
  | 0, _ => none
  | d + 1, x => if x + l ≤ n then (if ll_oc T O x l 0 = true then some x else ll_fd T O l n d (x + 1)) else none
theorem ll_fd_u {T O : Nat → Int32} {l n d x : Nat} : ll_fd T O l n (d + 1) x = if x + l ≤ n then (if ll_oc T O x l 0 = true then some x else ll_fd T O l n d (x + 1)) else none := rfl
theorem ll_fd_s {T O : Nat → Int32} {l n : Nat} : ∀ d x q, ll_fd T O l n d x = some q → x ≤ q ∧ q + l ≤ n ∧ ll_oc T O q l 0 = true := by
  intro d
  induction d with
  | zero => intro x q h; exact absurd h (by simp [ll_fd])
  | succ d ih =>
    intro x q h
    rw [ll_fd_u] at h
    by_cases h1 : x + l ≤ n
    · rw [if_pos h1] at h
      by_cases h2 : ll_oc T O x l 0 = true
      · rw [if_pos h2] at h
        cases h
        exact ⟨Nat.le_refl _, h1, h2⟩
      · rw [if_neg h2] at h
        have := ih (x + 1) q h
        exact ⟨by omega, this.2.1, this.2.2⟩
    · rw [if_neg h1] at h
      exact absurd h (by simp)
theorem ll_fd_cg {T O O' : Nat → Int32} {l n : Nat} (hO : ∀ j, j < l → O j = O' j) : ∀ d x, ll_fd T O l n d x = ll_fd T O' l n d x := by
  intro d
  induction d with
  | zero => intro x; rfl
  | succ d ih =>
    intro x
    rw [ll_fd_u, ll_fd_u, ll_oc_cg l 0 (fun j hj => hO j (by omega)), ih]
/-- the answer of a find: -1, or base + place -/
def ll_oI (B : Nat) : Option Nat → Int32
  | none => -1
  | some q => nI (B + q)
def ll_sp (T : Nat → Int32) : Nat → Nat → Nat
  | 0, i => i
  | d + 1, i => if T i = 32 then ll_sp T d (i + 1) else i
theorem ll_sp_u {T : Nat → Int32} {d i : Nat} : ll_sp T (d + 1) i = if T i = 32 then ll_sp T d (i + 1) else i := rfl
theorem ll_sp_b {T : Nat → Int32} : ∀ d i, i ≤ ll_sp T d i ∧ ll_sp T d i ≤ i + d := by
  intro d
  induction d with
  | zero => intro i; exact ⟨Nat.le_refl _, Nat.le_refl _⟩
  | succ d ih =>
    intro i
    rw [ll_sp_u]
    have := ih (i + 1)
    split <;> omega
theorem ll_sp_a {T : Nat → Int32} : ∀ d i j, i ≤ j → j < ll_sp T d i → T j = 32 := by
  intro d
  induction d with
  | zero => intro i j h1 h2; simp only [ll_sp] at h2; omega
  | succ d ih =>
    intro i j h1 h2
    rw [ll_sp_u] at h2
    by_cases e : T i = 32
    · rw [if_pos e] at h2
      by_cases h : j = i
      · rw [h]; exact e
      · exact ih (i + 1) j (by omega) h2
    · rw [if_neg e] at h2; omega
theorem ll_sp_n {T : Nat → Int32} : ∀ d i, ll_sp T d i < i + d → T (ll_sp T d i) ≠ 32 := by
  intro d
  induction d with
  | zero => intro i h; simp only [ll_sp] at h; omega
  | succ d ih =>
    intro i h
    rw [ll_sp_u] at h ⊢
    by_cases e : T i = 32
    · rw [if_pos e] at h ⊢
      exact ih (i + 1) (by omega)
    · rw [if_neg e]; exact e
def ll_sb (T : Nat → Int32) : Nat → Nat → Nat
  | 0, j => j
  | d + 1, j => if T (j - 1) = 32 then ll_sb T d (j - 1) else j
theorem ll_sb_u {T : Nat → Int32} {d j : Nat} : ll_sb T (d + 1) j = if T (j - 1) = 32 then ll_sb T d (j - 1) else j := rfl
theorem ll_sb_b {T : Nat → Int32} : ∀ d j, d ≤ j → j - d ≤ ll_sb T d j ∧ ll_sb T d j ≤ j := by
  intro d
  induction d with
  | zero => intro j h; exact ⟨by simp only [ll_sb]; omega, Nat.le_refl _⟩
  | succ d ih =>
    intro j h
    rw [ll_sb_u]
    have := ih (j - 1) (by omega)
    split <;> omega
theorem ll_sb_a {T : Nat → Int32} : ∀ d j i, d ≤ j → ll_sb T d j ≤ i → i < j → T i = 32 := by
  intro d
  induction d with
  | zero => intro j i h h1 h2; simp only [ll_sb] at h1; omega
  | succ d ih =>
    intro j i h h1 h2
    rw [ll_sb_u] at h1
    by_cases e : T (j - 1) = 32
    · rw [if_pos e] at h1
      by_cases h3 : i = j - 1
      · rw [h3]; exact e
      · exact ih (j - 1) i (by omega) h1 (by omega)
    · rw [if_neg e] at h1; omega
theorem ll_sb_n {T : Nat → Int32} : ∀ d j, d ≤ j → j - d < ll_sb T d j → T (ll_sb T d j - 1) ≠ 32 := by
  intro d
  induction d with
  | zero => intro j h h1; simp only [ll_sb] at h1; omega
  | succ d ih =>
    intro j h h1
    rw [ll_sb_u] at h1 ⊢
    by_cases e : T (j - 1) = 32
    · rw [if_pos e] at h1 ⊢
      exact ih (j - 1) (by omega) (by omega)
    · rw [if_neg e]; exact e
/-- a mark's character -/
def ll_gd (c : Int32) : Prop := 32 < c ∧ c ≠ 61
def ll_sm (T : Nat → Int32) : Nat → Nat → Nat
  | 0, i => i
  | d + 1, i => if 32 < T i ∧ T i ≠ 61 then ll_sm T d (i + 1) else i
theorem ll_sm_u {T : Nat → Int32} {d i : Nat} : ll_sm T (d + 1) i = if 32 < T i ∧ T i ≠ 61 then ll_sm T d (i + 1) else i := rfl
theorem ll_sm_b {T : Nat → Int32} : ∀ d i, i ≤ ll_sm T d i ∧ ll_sm T d i ≤ i + d := by
  intro d
  induction d with
  | zero => intro i; exact ⟨Nat.le_refl _, Nat.le_refl _⟩
  | succ d ih =>
    intro i
    rw [ll_sm_u]
    have := ih (i + 1)
    split <;> omega
theorem ll_sm_a {T : Nat → Int32} : ∀ d i j, i ≤ j → j < ll_sm T d i → ll_gd (T j) := by
  intro d
  induction d with
  | zero => intro i j h1 h2; simp only [ll_sm] at h2; omega
  | succ d ih =>
    intro i j h1 h2
    rw [ll_sm_u] at h2
    by_cases e : 32 < T i ∧ T i ≠ 61
    · rw [if_pos e] at h2
      by_cases h : j = i
      · rw [h]; exact e
      · exact ih (i + 1) j (by omega) h2
    · rw [if_neg e] at h2; omega
theorem ll_sm_n {T : Nat → Int32} : ∀ d i, ll_sm T d i < i + d → ¬ ll_gd (T (ll_sm T d i)) := by
  intro d
  induction d with
  | zero => intro i h; simp only [ll_sm] at h; omega
  | succ d ih =>
    intro i h
    rw [ll_sm_u] at h ⊢
    by_cases e : 32 < T i ∧ T i ≠ 61
    · rw [if_pos e] at h ⊢
      exact ih (i + 1) (by omega)
    · rw [if_neg e]; exact e
/-- the only character between the spaces of lo .. hi-1, or -1 -/
def ll_of (T : Nat → Int32) (lo hi : Nat) : Nat := ll_sp T (hi - lo) lo
def ll_ol (T : Nat → Int32) (lo hi : Nat) : Nat := ll_sb T (hi - ll_of T lo hi) hi
def ll_on (T : Nat → Int32) (lo hi : Nat) : Int32 := if ll_ol T lo hi = ll_of T lo hi + 1 then T (ll_of T lo hi) else -1
theorem ll_of_b {T : Nat → Int32} {lo hi : Nat} (h : lo ≤ hi) : lo ≤ ll_of T lo hi ∧ ll_of T lo hi ≤ hi := by
  have := ll_sp_b (T := T) (hi - lo) lo
  unfold ll_of
  omega
theorem ll_ol_b {T : Nat → Int32} {lo hi : Nat} (h : lo ≤ hi) : ll_of T lo hi ≤ ll_ol T lo hi ∧ ll_ol T lo hi ≤ hi := by
  have := ll_of_b (T := T) h
  have := ll_sb_b (T := T) (hi - ll_of T lo hi) hi (by omega)
  unfold ll_ol
  omega
/-- newline searches -/
def ll_nb (T : Nat → Int32) : Nat → Nat
  | 0 => 0
  | q + 1 => if T q = 10 then q + 1 else ll_nb T q
theorem ll_nb_u {T : Nat → Int32} {q : Nat} : ll_nb T (q + 1) = if T q = 10 then q + 1 else ll_nb T q := rfl
theorem ll_nb_le {T : Nat → Int32} : ∀ q, ll_nb T q ≤ q := by
  intro q
  induction q with
  | zero => exact Nat.le_refl _
  | succ q ih => rw [ll_nb_u]; split <;> omega
theorem ll_nb_sb {T : Nat → Int32} : ∀ q, ((∀ i, ll_nb T q ≤ i → i < q → T i = 32) ↔ (ll_sb T q q = 0 ∨ T (ll_sb T q q - 1) = 10)) ∧ ((∀ i, ll_nb T q ≤ i → i < q → T i = 32) → ll_nb T q = ll_sb T q q) := by
  intro q
  induction q with
  | zero => exact ⟨⟨fun _ => Or.inl rfl, fun _ i _ h => absurd h (by omega)⟩, fun _ => rfl⟩
  | succ q ih =>
    have hq := ll_nb_le (T := T) q
    have e1 : ll_sb T (q + 1) (q + 1) = if T q = 32 then ll_sb T q q else q + 1 := rfl
    rw [e1, ll_nb_u]
    by_cases h1 : T q = 32
    · have h2 : ¬ T q = 10 := by rw [h1]; decide
      rw [if_pos h1, if_neg h2]
      have e2 : (∀ i, ll_nb T q ≤ i → i < q + 1 → T i = 32) ↔ (∀ i, ll_nb T q ≤ i → i < q → T i = 32) := by
        constructor
        · intro h i ha hb
          exact h i ha (by omega)
        · intro h i ha hb
          by_cases hi : i = q
          · rw [hi]; exact h1
          · exact h i ha (by omega)
      rw [e2]
      exact ih
    · rw [if_neg h1]
      by_cases h2 : T q = 10
      · rw [if_pos h2]
        exact ⟨⟨fun _ => Or.inr h2, fun _ i ha hb => absurd ha (by omega)⟩, fun _ => rfl⟩
      · rw [if_neg h2]
        have e3 : ¬ (∀ i, ll_nb T q ≤ i → i < q + 1 → T i = 32) := fun h => h1 (h q hq (by omega))
        refine ⟨⟨fun h => absurd h e3, fun h => ?_⟩, fun h => absurd h e3⟩
        rcases h with h | h
        · omega
        · exact absurd h h2
def ll_nf (T : Nat → Int32) : Nat → Nat → Nat
  | 0, i => i
  | d + 1, i => if T i = 10 then i else ll_nf T d (i + 1)
theorem ll_nf_u {T : Nat → Int32} {d i : Nat} : ll_nf T (d + 1) i = if T i = 10 then i else ll_nf T d (i + 1) := rfl
theorem ll_nf_b {T : Nat → Int32} : ∀ d i, i ≤ ll_nf T d i ∧ ll_nf T d i ≤ i + d := by
  intro d
  induction d with
  | zero => intro i; exact ⟨Nat.le_refl _, Nat.le_refl _⟩
  | succ d ih =>
    intro i
    rw [ll_nf_u]
    have := ih (i + 1)
    split <;> omega
theorem ll_nf_n {T : Nat → Int32} : ∀ d i, ll_nf T d i < i + d → T (ll_nf T d i) = 10 := by
  intro d
  induction d with
  | zero => intro i h; simp only [ll_nf] at h; omega
  | succ d ih =>
    intro i h
    rw [ll_nf_u] at h ⊢
    by_cases e : T i = 10
    · rw [if_pos e]; exact e
    · rw [if_neg e] at h ⊢
      exact ih (i + 1) (by omega)
theorem ll_nf_sp {T : Nat → Int32} : ∀ d e, ((∀ i, e ≤ i → i < ll_nf T d e → T i = 32) ↔ (ll_sp T d e = e + d ∨ T (ll_sp T d e) = 10)) ∧ ((∀ i, e ≤ i → i < ll_nf T d e → T i = 32) → ll_nf T d e = ll_sp T d e) := by
  intro d
  induction d with
  | zero => intro e; exact ⟨⟨fun _ => Or.inl rfl, fun _ i h1 h2 => absurd h2 (by simp only [ll_nf]; omega)⟩, fun _ => rfl⟩
  | succ d ih =>
    intro e
    rw [ll_nf_u, ll_sp_u]
    by_cases h1 : T e = 32
    · have h2 : ¬ T e = 10 := by rw [h1]; decide
      rw [if_neg h2, if_pos h1]
      have e2 : (∀ i, e ≤ i → i < ll_nf T d (e + 1) → T i = 32) ↔ (∀ i, e + 1 ≤ i → i < ll_nf T d (e + 1) → T i = 32) := by
        constructor
        · intro h i ha hb
          exact h i (by omega) hb
        · intro h i ha hb
          by_cases hi : i = e
          · rw [hi]; exact h1
          · exact h i (by omega) hb
      rw [e2, show e + (d + 1) = e + 1 + d from by omega]
      exact ih (e + 1)
    · rw [if_neg h1]
      by_cases h2 : T e = 10
      · rw [if_pos h2]
        exact ⟨⟨fun _ => Or.inr h2, fun _ i ha hb => absurd ha (by omega)⟩, fun _ => rfl⟩
      · rw [if_neg h2]
        have hb := ll_nf_b (T := T) d (e + 1)
        have e3 : ¬ (∀ i, e ≤ i → i < ll_nf T d (e + 1) → T i = 32) := fun h => h1 (h e (Nat.le_refl _) (by omega))
        refine ⟨⟨fun h => absurd h e3, fun h => ?_⟩, fun h => absurd h e3⟩
        rcases h with h | h
        · omega
        · exact absurd h h2
/-! C: a tag's content -/
def ll_da (T : Nat → Int32) (a b : Nat) : Nat := ll_sp T (b - 1 - (a + 1)) (a + 1)
def ll_dh (T : Nat → Int32) (a b : Nat) : Nat := ll_sb T (b - 1 - ll_da T a b) (b - 1)
def ll_de (T : Nat → Int32) (a b : Nat) : Nat := ll_sm T (ll_dh T a b - ll_da T a b) (ll_da T a b)
def ll_db (T : Nat → Int32) (a b : Nat) : Nat := ll_sp T (ll_dh T a b - ll_de T a b) (ll_de T a b)
theorem ll_d_b {T : Nat → Int32} {a b : Nat} (h : a + 3 ≤ b) : a + 1 ≤ ll_da T a b ∧ ll_da T a b ≤ ll_de T a b ∧ ll_de T a b ≤ ll_db T a b ∧ ll_db T a b ≤ ll_dh T a b ∧ ll_dh T a b ≤ b - 1 := by
  have h1 := ll_sp_b (T := T) (b - 1 - (a + 1)) (a + 1)
  have h1' : a + 1 ≤ ll_da T a b ∧ ll_da T a b ≤ b - 1 := by unfold ll_da; omega
  have h2 := ll_sb_b (T := T) (b - 1 - ll_da T a b) (b - 1) (by omega)
  have h2' : ll_da T a b ≤ ll_dh T a b ∧ ll_dh T a b ≤ b - 1 := by unfold ll_dh; omega
  have h3 := ll_sm_b (T := T) (ll_dh T a b - ll_da T a b) (ll_da T a b)
  have h3' : ll_da T a b ≤ ll_de T a b ∧ ll_de T a b ≤ ll_dh T a b := by unfold ll_de; omega
  have h4 := ll_sp_b (T := T) (ll_dh T a b - ll_de T a b) (ll_de T a b)
  have h4' : ll_de T a b ≤ ll_db T a b ∧ ll_db T a b ≤ ll_dh T a b := by unfold ll_db; omega
  omega
/-- the set-delimiter content of a .. b-1 keeps its rule -/
def ll_dok (T : Nat → Int32) (a b : Nat) : Prop := a + 3 ≤ b ∧ T (b - 1) = 61 ∧ ll_sm T (ll_dh T a b - ll_db T a b) (ll_db T a b) = ll_dh T a b ∧ (ll_da T a b + 1 ≤ ll_de T a b ∧ ll_de T a b ≤ ll_da T a b + 3) ∧ (ll_db T a b + 1 ≤ ll_dh T a b ∧ ll_dh T a b ≤ ll_db T a b + 3)
def ll_kc (c : Int32) : Nat := if c = 33 then 4 else if c = 61 then 5 else if c = 35 then 6 else if c = 94 then 7 else if c = 47 then 8 else if c = 38 then 3 else if c = 62 then 9 else 2
/-- the kind of the tag with content a .. b-1, as X numbers kinds -/
def ll_kd (T : Nat → Int32) (a b : Nat) : Nat := if a < b then ll_kc (T a) else 2
def ll_nm (c : Int32) : Prop := c = 46 ∨ (97 ≤ c ∧ c ≤ 122)
/-- the name of the tag -/
def ll_na (T : Nat → Int32) (a b : Nat) : Int32 := ll_on T (if ll_kd T a b = 2 then a else a + 1) b
/-- the content keeps its rule -/
def ll_ok (T : Nat → Int32) (a b : Nat) : Prop :=
  if ll_kd T a b = 4 then True else if ll_kd T a b = 5 then ll_dok T a b else if ll_kd T a b = 9 then (49 ≤ ll_na T a b ∧ ll_na T a b ≤ 51) else ll_nm (ll_na T a b)
theorem ll_kc_b (c : Int32) : 2 ≤ ll_kc c ∧ ll_kc c ≤ 9 := by
  unfold ll_kc
  repeat' split
  all_goals omega
theorem ll_kd_b (T : Nat → Int32) (a b : Nat) : 2 ≤ ll_kd T a b ∧ ll_kd T a b ≤ 9 := by
  unfold ll_kd
  split
  · exact ll_kc_b _
  · omega
/-- X's kind as Y's type -/
def ll_ty (k : Nat) : Nat := if k = 4 then 2 else if k = 5 then 3 else if k = 2 then 4 else if k = 3 then 5 else k
/-! D: a number's digits -/
def ll_it (m : Int32) : Nat → Int32
  | 0 => m
  | k + 1 => ll_it m k / 10
theorem ll_it_u {m : Int32} {k : Nat} : ll_it m (k + 1) = ll_it m k / 10 := rfl
theorem ll_10 : (10 : Int32).toInt = 10 := by decide
theorem ll_dv (x : Int32) : (x / 10).toInt = x.toInt.tdiv 10 := by
  rw [Jvm.Kit.i32_div (by rw [ll_10]; omega), ll_10]
theorem ll_it_abs (m : Int32) : ∀ k, (ll_it m k).toInt.natAbs ≤ 2 ^ 31 / 10 ^ k := by
  intro k
  induction k with
  | zero =>
    have h1 := m.le_toInt
    have h2 := m.toInt_lt
    simp only [ll_it, Nat.pow_zero, Nat.div_one]
    omega
  | succ k ih =>
    have e : 2 ^ 31 / 10 ^ (k + 1) = 2 ^ 31 / 10 ^ k / 10 := by
      rw [Nat.div_div_eq_div_mul]
      rfl
    rw [ll_it_u, ll_dv, Int.natAbs_tdiv, e]
    exact Nat.div_le_div_right ih
theorem ll_it_10 (m : Int32) : ll_it m 10 = 0 := by
  have h := ll_it_abs m 10
  apply Int32.toInt_inj.mp
  have e : (2 ^ 31 / 10 ^ 10 : Nat) = 0 := by decide
  rw [e] at h
  have e2 : (0 : Int32).toInt = 0 := by decide
  rw [e2]
  omega
theorem ll_it_neg {m : Int32} (h : m.toInt ≤ 0) : ∀ k, (ll_it m k).toInt ≤ 0 := by
  intro k
  induction k with
  | zero => exact h
  | succ k ih =>
    rw [ll_it_u, ll_dv]
    have : (ll_it m k).toInt.tdiv 10 = -((-(ll_it m k).toInt).tdiv 10) := by rw [Int.neg_tdiv, Int.neg_neg]
    rw [this, Int.tdiv_eq_ediv_of_nonneg (by omega)]
    omega
/-- the digit of weight 10^k, as a character -/
def ll_dg (m : Int32) (k : Nat) : Int32 := 48 - (ll_it m k - ll_it m k / 10 * 10)
theorem ll_dg_r {m : Int32} (h : m.toInt ≤ 0) (k : Nat) : 48 ≤ (ll_dg m k).toInt ∧ (ll_dg m k).toInt ≤ 57 := by
  have h1 := ll_it_neg h k
  have h2 := rem_toInt (ll_it m k) 10
  rw [ll_10] at h2
  have h3 := tmod_bounds (a := (ll_it m k).toInt) (M := 10) (by omega)
  have h4 : (ll_it m k).toInt.tmod 10 ≤ 0 := by
    have : (ll_it m k).toInt.tmod 10 = -((-(ll_it m k).toInt).tmod 10) := by rw [Int.neg_tmod, Int.neg_neg]
    rw [this, Int.tmod_eq_emod_of_nonneg (by omega)]
    omega
  have e48 : (48 : Int32).toInt = 48 := by decide
  unfold ll_dg
  rw [Int32.toInt_sub, h2, e48, Int.bmod_eq_of_le (by omega) (by omega)]
  omega
end LLP
end
section
section LLW
/-! arrays that a loop fills -/
theorem fl_uu {f : Nat → Int32} {k : Nat} {x y : Int32} : upd (upd f k x) k y = upd f k y := by
  funext j
  by_cases h : j = k
  · rw [h, pk_us, pk_us]
  · rw [pk_un h, pk_un h, pk_un h]
def fl_f (f : Nat → Int32) (lo hi : Nat) (x : Int32) : Nat → Int32 := fun j => if lo ≤ j ∧ j < hi then x else f j
theorem fl_in {f : Nat → Int32} {lo hi j : Nat} {x : Int32} (h1 : lo ≤ j) (h2 : j < hi) : fl_f f lo hi x j = x := if_pos ⟨h1, h2⟩
theorem fl_out {f : Nat → Int32} {lo hi j : Nat} {x : Int32} (h : j < lo ∨ hi ≤ j) : fl_f f lo hi x j = f j := if_neg (fun z => by omega)
theorem fl_0 {f : Nat → Int32} {lo hi : Nat} {x : Int32} (h : hi ≤ lo) : fl_f f lo hi x = f := by
  funext j
  exact fl_out (by omega)
theorem fl_s {f : Nat → Int32} {lo hi : Nat} {x : Int32} (h : lo ≤ hi) : upd (fl_f f lo hi x) hi x = fl_f f lo (hi + 1) x := by
  funext j
  by_cases e : j = hi
  · rw [e, pk_us, fl_in h (by omega)]
  · rw [pk_un e]
    by_cases e2 : lo ≤ j ∧ j < hi
    · rw [fl_in e2.1 e2.2, fl_in e2.1 (by omega)]
    · rw [fl_out (by omega), fl_out (by omega)]
def cy_f (f g : Nat → Int32) (d : Nat) : Nat → Int32 := fun j => if j < d then g j else f j
theorem cy_in {f g : Nat → Int32} {d j : Nat} (h : j < d) : cy_f f g d j = g j := if_pos h
theorem cy_out {f g : Nat → Int32} {d j : Nat} (h : d ≤ j) : cy_f f g d j = f j := if_neg (by omega)
theorem cy_0 {f g : Nat → Int32} : cy_f f g 0 = f := by
  funext j
  exact cy_out (by omega)
theorem cy_s {f g : Nat → Int32} {d : Nat} : upd (cy_f f g d) d (g d) = cy_f f g (d + 1) := by
  funext j
  by_cases e : j = d
  · rw [e, pk_us, cy_in (by omega)]
  · rw [pk_un e]
    by_cases e2 : j < d
    · rw [cy_in e2, cy_in (by omega)]
    · rw [cy_out (by omega), cy_out (by omega)]
/-- writes at base + i, base + i + 1 .. -/
def wr_f (t : Nat → Int32) (g : Nat → Int32) (b : Nat) (d : Nat) : Nat → Int32 := fun j => if b ≤ j ∧ j < b + d then g (j - b) else t j
theorem wr_0 {t g : Nat → Int32} {b : Nat} : wr_f t g b 0 = t := by
  funext j
  exact if_neg (by omega)
theorem wr_s {t g : Nat → Int32} {b d : Nat} : upd (wr_f t g b d) (b + d) (g d) = wr_f t g b (d + 1) := by
  funext j
  by_cases e : j = b + d
  · rw [e, pk_us]
    show _ = if _ then _ else _
    rw [if_pos (by omega), show b + d - b = d from by omega]
  · rw [pk_un e]
    show (if _ then _ else _) = if _ then _ else _
    by_cases e2 : b ≤ j ∧ j < b + d
    · rw [if_pos e2, if_pos (by omega)]
    · rw [if_neg e2, if_neg (by omega)]
theorem wr_out {t g : Nat → Int32} {b d j : Nat} (h : j < b ∨ b + d ≤ j) : wr_f t g b d j = t j := if_neg (by omega)
theorem wr_in {t g : Nat → Int32} {b d j : Nat} (h : b ≤ j) (h2 : j < b + d) : wr_f t g b d j = g (j - b) := if_pos ⟨h, h2⟩
end LLW
end
section
section LLT
/-! the tie between X's cell tables and Y's tokens of one slot -/
def fu {α : Type} (f : Nat → α) (k : Nat) (x : α) : Nat → α := fun j => if j = k then x else f j
theorem fu_s {α : Type} {f : Nat → α} {k : Nat} {x : α} : fu f k x k = x := if_pos rfl
theorem fu_n {α : Type} {f : Nat → α} {k j : Nat} {x : α} (h : j ≠ k) : fu f k x j = f j := if_neg h
/-- Y's type as X's kind -/
def tk_k (t : Nat) : Nat := if t = 2 then 4 else if t = 3 then 5 else if t = 4 then 2 else if t = 5 then 3 else t
theorem tk_kty : ∀ k, k ≤ 9 → 2 ≤ k → tk_k (ll_ty k) = k ∧ 2 ≤ ll_ty k ∧ ll_ty k ≤ 9 := by decide
/-- Y's tokens, with ghost places ps and types tp -/
def tk_a (s m p : Nat) (ty tA tB : Nat → Int32) (ps tp : Nat → Nat) : Prop :=
  ps 0 = 0 ∧ ps m = p ∧ ∀ t, t < m → ps t < ps (t + 1) ∧ 1 ≤ tp t ∧ tp t ≤ 9 ∧ ty (s * 100 + t) = nI (tp t) ∧ tA (s * 100 + t) = nI (ps t) ∧ tB (s * 100 + t) = nI (ps (t + 1))
theorem tk_mono {s m p : Nat} {ty tA tB : Nat → Int32} {ps tp : Nat → Nat} (h : tk_a s m p ty tA tB ps tp) : ∀ d t, t + d ≤ m → ps t + d ≤ ps (t + d) := by
  intro d
  induction d with
  | zero => intro t _; exact Nat.le_refl _
  | succ d ih =>
    intro t ht
    have h1 := ih t (by omega)
    have h2 := (h.2.2 (t + d) (by omega)).1
    have e : t + (d + 1) = t + d + 1 := by omega
    rw [e]
    omega
theorem tk_lt {s m p : Nat} {ty tA tB : Nat → Int32} {ps tp : Nat → Nat} (h : tk_a s m p ty tA tB ps tp) {t t' : Nat} (h1 : t < t') (h2 : t' ≤ m) : ps t < ps t' := by
  have := tk_mono h (t' - t) t (by omega)
  rw [show t + (t' - t) = t' from by omega] at this
  omega
theorem tk_le {s m p : Nat} {ty tA tB : Nat → Int32} {ps tp : Nat → Nat} (h : tk_a s m p ty tA tB ps tp) {t t' : Nat} (h1 : t ≤ t') (h2 : t' ≤ m) : ps t ≤ ps t' := by
  have := tk_mono h (t' - t) t (by omega)
  rw [show t + (t' - t) = t' from by omega] at this
  omega
theorem tk_mp {s m p : Nat} {ty tA tB : Nat → Int32} {ps tp : Nat → Nat} (h : tk_a s m p ty tA tB ps tp) : m ≤ p := by
  have := tk_mono h m 0 (by omega)
  rw [Nat.zero_add, h.2.1] at this
  omega
theorem tk_ap {s m p : Nat} {ty tA tB : Nat → Int32} {ps tp : Nat → Nat} (h : tk_a s m p ty tA tB ps tp) {t : Nat} (ht : t ≤ m) : ps t ≤ p := by
  have := tk_le h ht (Nat.le_refl m)
  rw [h.2.1] at this
  exact this
theorem tk_inj {s m p : Nat} {ty tA tB : Nat → Int32} {ps tp : Nat → Nat} (h : tk_a s m p ty tA tB ps tp) {t t' : Nat} (h1 : t ≤ m) (h2 : t' ≤ m) (e : ps t = ps t') : t = t' := by
  by_cases h3 : t < t'
  · have := tk_lt h h3 h2; omega
  · by_cases h4 : t' < t
    · have := tk_lt h h4 h1; omega
    · omega
theorem tk_a0 (s : Nat) (ty tA tB : Nat → Int32) (ps tp : Nat → Nat) (h : ps 0 = 0) : tk_a s 0 0 ty tA tB ps tp := ⟨h, h, fun t ht => absurd ht (by omega)⟩
theorem tk_a1 {s m p : Nat} {ty tA tB : Nat → Int32} {ps tp : Nat → Nat} (h : tk_a s m p ty tA tB ps tp) {p' k : Nat} (hp : p < p') (hk : 1 ≤ k) (hk9 : k ≤ 9) : tk_a s (m + 1) p' (upd ty (s * 100 + m) (nI k)) (upd tA (s * 100 + m) (nI p)) (upd tB (s * 100 + m) (nI p')) (fu ps (m + 1) p') (fu tp m k) := by
  obtain ⟨h0, hm, ha⟩ := h
  refine ⟨by rw [fu_n (by omega)]; exact h0, fu_s, fun t ht => ?_⟩
  by_cases e : t = m
  · subst e
    rw [fu_n (by omega), fu_s, fu_s, pk_us, pk_us, pk_us, hm]
    exact ⟨hp, hk, hk9, rfl, rfl, rfl⟩
  · rw [fu_n (by omega), fu_n (by omega), fu_n e, pk_un (by omega), pk_un (by omega), pk_un (by omega)]
    exact ha t (by omega)
/-- X's cells against the ghosts -/
def tk_c (s n m p : Nat) (T K N E R tN : Nat → Int32) (ps tp : Nat → Nat) : Prop :=
  (∀ t, t < m → tp t = 1 → ∀ c, ps t ≤ c → c < ps (t + 1) → K (s * 96 + c) = 0 ∨ K (s * 96 + c) = 1) ∧
  (∀ t, t < m → tp t ≠ 1 → K (s * 96 + ps t) = nI (tk_k (tp t)) ∧ E (s * 96 + ps t) = nI (s * 96 + ps (t + 1)) ∧ 32 < T (ps t)) ∧
  (∀ t, t < m → 4 ≤ tp t → N (s * 96 + ps t) = tN (s * 100 + t) ∧ (tp t = 9 → 49 ≤ N (s * 96 + ps t) ∧ N (s * 96 + ps t) ≤ 51) ∧ (tp t ≠ 9 → ll_nm (N (s * 96 + ps t)))) ∧
  (∀ c, c < n → (R (s * 96 + c) = 0 ∨ R (s * 96 + c) = 1) ∧ (R (s * 96 + c) = 1 ↔ K (s * 96 + c) = 1) ∧ (R (s * 96 + c) = 1 → T c = 32 ∨ T c = 10)) ∧
  (∀ c, p ≤ c → c < n → K (s * 96 + c) = 0 ∨ K (s * 96 + c) = 1)
theorem tk_c0 {s n : Nat} {T K N E R tN : Nat → Int32} {ps tp : Nat → Nat} (hK : ∀ c, c < n → K (s * 96 + c) = 0) (hR : ∀ c, c < n → R (s * 96 + c) = 0) : tk_c s n 0 0 T K N E R tN ps tp := by
  refine ⟨fun t h => absurd h (by omega), fun t h => absurd h (by omega), fun t h => absurd h (by omega), fun c hc => ?_, fun c _ hc => Or.inl (hK c hc)⟩
  rw [hK c hc, hR c hc]
  exact ⟨Or.inl rfl, Iff.rfl, fun h => absurd h (by decide)⟩
/-- a literal token -/
theorem tk_c1 {s n m p : Nat} {T K N E R tN ty tA tB : Nat → Int32} {ps tp : Nat → Nat} (ha : tk_a s m p ty tA tB ps tp) (h : tk_c s n m p T K N E R tN ps tp) {q : Nat} {x : Int32} (hp : p < q) (hq : q ≤ n) : tk_c s n (m + 1) q T K N E R (upd tN (s * 100 + m) x) (fu ps (m + 1) q) (fu tp m 1) := by
  obtain ⟨h1, h2, h3, h4, h5⟩ := h
  refine ⟨fun t ht => ?_, fun t ht => ?_, fun t ht => ?_, h4, fun c hc hn => h5 c (by omega) hn⟩
  · by_cases e : t = m
    · subst e
      simp only [fu_s, fu_n (show t ≠ t + 1 from by omega)]
      rw [ha.2.1]
      intro _ c hc hc2
      exact h5 c hc (by omega)
    · simp only [fu_n (show t ≠ m + 1 from by omega), fu_n (show t + 1 ≠ m + 1 from by omega), fu_n e, pk_un (show s * 100 + t ≠ s * 100 + m from by omega)]
      exact h1 t (by omega)
  · by_cases e : t = m
    · subst e
      rw [fu_s]
      intro z
      exact absurd rfl z
    · simp only [fu_n (show t ≠ m + 1 from by omega), fu_n (show t + 1 ≠ m + 1 from by omega), fu_n e, pk_un (show s * 100 + t ≠ s * 100 + m from by omega)]
      exact h2 t (by omega)
  · by_cases e : t = m
    · subst e
      rw [fu_s]
      intro z
      omega
    · simp only [fu_n (show t ≠ m + 1 from by omega), fu_n (show t + 1 ≠ m + 1 from by omega), fu_n e, pk_un (show s * 100 + t ≠ s * 100 + m from by omega)]
      exact h3 t (by omega)
/-- a tag's token -/
theorem tk_c2 {s n m q : Nat} {T K N E R tN ty tA tB K' N' R' : Nat → Int32} {ps tp : Nat → Nat} (ha : tk_a s m q ty tA tB ps tp) (h : tk_c s n m q T K N E R tN ps tp) {e k : Nat} {x : Int32} (rm : Nat → Prop) (hq : q < e) (he : e ≤ n) (hk : 2 ≤ k) (hT : 32 < T q)
    (hK : K' (s * 96 + q) = nI (tk_k k)) (hK' : ∀ c, c < n → c ≠ q → (rm c → K' (s * 96 + c) = 1) ∧ (¬ rm c → K' (s * 96 + c) = K (s * 96 + c)))
    (hR' : ∀ c, c < n → (rm c → R' (s * 96 + c) = 1) ∧ (¬ rm c → R' (s * 96 + c) = R (s * 96 + c)))
    (hrm : ∀ c, c < n → rm c → T c = 32 ∨ T c = 10)
    (hN : ∀ c, c < n → c ≠ q → N' (s * 96 + c) = N (s * 96 + c))
    (hx : 4 ≤ k → N' (s * 96 + q) = x ∧ (k = 9 → 49 ≤ x ∧ x ≤ 51) ∧ (k ≠ 9 → ll_nm x)) (hk1 : ¬ nI (tk_k k) = 1) :
    tk_c s n (m + 1) e T K' N' (upd E (s * 96 + q) (nI (s * 96 + e))) R' (upd tN (s * 100 + m) x) (fu ps (m + 1) e) (fu tp m k) := by
  obtain ⟨h1, h2, h3, h4, h5⟩ := h
  have hT10 : ¬ T q = 10 := by intro z; rw [z] at hT; exact absurd hT (by decide)
  have hT32 : ¬ T q = 32 := by intro z; rw [z] at hT; exact absurd hT (by decide)
  have hrq : ¬ rm q := fun z => by
    rcases hrm q (by omega) z with z | z
    · exact hT32 z
    · exact hT10 z
  have K01 : ∀ c, c < n → c ≠ q → (K (s * 96 + c) = 0 ∨ K (s * 96 + c) = 1) → (K' (s * 96 + c) = 0 ∨ K' (s * 96 + c) = 1) := by
    intro c hc hcq z
    by_cases r : rm c
    · exact Or.inr ((hK' c hc hcq).1 r)
    · rw [(hK' c hc hcq).2 r]; exact z
  refine ⟨fun t ht => ?_, fun t ht => ?_, fun t ht => ?_, fun c hc => ?_, fun c hc hn => K01 c hn (by omega) (h5 c (by omega) hn)⟩
  · by_cases z : t = m
    · subst z
      rw [fu_s]
      intro z
      omega
    · simp only [fu_n (show t ≠ m + 1 from by omega), fu_n (show t + 1 ≠ m + 1 from by omega), fu_n z, pk_un (show s * 100 + t ≠ s * 100 + m from by omega)]
      intro z1 c hc1 hc2
      have := tk_ap ha (t := t + 1) (by omega)
      exact K01 c (by omega) (by omega) (h1 t (by omega) z1 c hc1 hc2)
  · by_cases z : t = m
    · subst z
      simp only [fu_s, fu_n (show t ≠ t + 1 from by omega)]
      rw [ha.2.1, hK, pk_us]
      exact fun _ => ⟨rfl, rfl, hT⟩
    · simp only [fu_n (show t ≠ m + 1 from by omega), fu_n (show t + 1 ≠ m + 1 from by omega), fu_n z, pk_un (show s * 100 + t ≠ s * 100 + m from by omega)]
      intro z1
      obtain ⟨g1, g2, g3⟩ := h2 t (by omega) z1
      have hl : ps t < q := by
        have := tk_lt ha (t := t) (t' := m) (by omega) (Nat.le_refl _)
        rw [ha.2.1] at this
        exact this
      have hr : ¬ rm (ps t) := fun y => by
        rcases hrm _ (by omega) y with y | y
        · rw [y] at g3; exact absurd g3 (by decide)
        · rw [y] at g3; exact absurd g3 (by decide)
      rw [(hK' (ps t) (by omega) (by omega)).2 hr, pk_un (by omega)]
      exact ⟨g1, g2, g3⟩
  · by_cases z : t = m
    · subst z
      simp only [fu_s, fu_n (show t ≠ t + 1 from by omega), pk_us]
      rw [ha.2.1]
      intro z1
      obtain ⟨g1, g2, g3⟩ := hx z1
      rw [g1]
      exact ⟨rfl, g2, g3⟩
    · simp only [fu_n (show t ≠ m + 1 from by omega), fu_n (show t + 1 ≠ m + 1 from by omega), fu_n z, pk_un (show s * 100 + t ≠ s * 100 + m from by omega)]
      intro z1
      have hl : ps t < q := by
        have := tk_lt ha (t := t) (t' := m) (by omega) (Nat.le_refl _)
        rw [ha.2.1] at this
        exact this
      rw [hN (ps t) (by omega) (by omega)]
      exact h3 t (by omega) z1
  · obtain ⟨g1, g2, g3⟩ := h4 c hc
    by_cases r : rm c
    · have hcq : c ≠ q := fun z => hrq (z ▸ r)
      rw [(hR' c hc).1 r, (hK' c hc hcq).1 r]
      exact ⟨Or.inr rfl, Iff.rfl, fun _ => hrm c hc r⟩
    · rw [(hR' c hc).2 r]
      by_cases z : c = q
      · subst z
        refine ⟨g1, ?_, g3⟩
        rw [hK]
        constructor
        · intro y
          rcases g3 y with w | w
          · exact absurd w hT32
          · exact absurd w hT10
        · intro y; exact absurd y hk1
      · rw [(hK' c hc z).2 r]
        exact ⟨g1, g2, g3⟩
/-- the stack of begun sections ahead of each token -/
def tk_s (s m : Nat) (G tM : Nat → Int32) (ps tp : Nat → Nat) (st : Nat → List Nat) : Prop :=
  st 0 = [] ∧
  (∀ t, t < m → st (t + 1) = if tp t = 6 ∨ tp t = 7 then t :: st t else if tp t = 8 then (st t).tail else st t) ∧
  (∀ t, t ≤ m → (st t).length ≤ 2 ∧ (st t = [] ∨ ∃ h, h < t ∧ st t = h :: st h ∧ (tp h = 6 ∨ tp h = 7))) ∧
  (∀ t, t < m → tp t = 8 → ∃ h, h < t ∧ st t = h :: st h ∧ h ∉ st m ∧ tM (s * 100 + h) = nI t ∧ G (s * 96 + ps h) = nI (s * 96 + ps (t + 1))) ∧
  (∀ t, t < m → (tp t = 6 ∨ tp t = 7) → t ∈ st m ∨ ∃ c, t < c ∧ c < m ∧ tp c = 8 ∧ st c = t :: st t)
theorem tk_s0 (s : Nat) (G tM : Nat → Int32) (ps tp : Nat → Nat) (st : Nat → List Nat) (h : st 0 = []) : tk_s s 0 G tM ps tp st := by
  refine ⟨h, fun t ht => absurd ht (by omega), fun t ht => ?_, fun t ht => absurd ht (by omega), fun t ht => absurd ht (by omega)⟩
  have e : t = 0 := by omega
  subst e
  rw [h]
  exact ⟨by simp, Or.inl rfl⟩
theorem tk_sb {s m : Nat} {G tM : Nat → Int32} {ps tp : Nat → Nat} {st : Nat → List Nat} (h : tk_s s m G tM ps tp st) : ∀ b t, t ≤ b → t ≤ m → ∀ x, x ∈ st t → x < t := by
  intro b
  induction b with
  | zero =>
    intro t hb hm x hx
    have e : t = 0 := by omega
    subst e
    rw [h.1] at hx
    exact absurd hx (by simp)
  | succ b ih =>
    intro t hb hm x hx
    rcases (h.2.2.1 t hm).2 with z | ⟨w, hw, e, _⟩
    · rw [z] at hx
      exact absurd hx (by simp)
    · rw [e] at hx
      rcases List.mem_cons.mp hx with y | y
      · omega
      · have := ih w (by omega) (by omega) x y
        omega
theorem tk_si {m : Nat} {st : Nat → List Nat} {l : List Nat} {t : Nat} (ht : t ≤ m) : fu st (m + 1) l t = st t := fu_n (by omega)
/-- a token that begins and ends nothing -/
theorem tk_s1 {s m k p' : Nat} {G tM : Nat → Int32} {ps tp : Nat → Nat} {st : Nat → List Nat} (h : tk_s s m G tM ps tp st) (h6 : k ≠ 6) (h7 : k ≠ 7) (h8 : k ≠ 8) (x : Int32) : tk_s s (m + 1) G (upd tM (s * 100 + m) x) (fu ps (m + 1) p') (fu tp m k) (fu st (m + 1) (st m)) := by
  have hb := tk_sb h
  obtain ⟨g1, g2, g3, g4, g5⟩ := h
  refine ⟨by rw [tk_si (by omega)]; exact g1, fun t ht => ?_, fun t ht => ?_, fun t ht => ?_, fun t ht => ?_⟩
  · by_cases z : t = m
    · subst z
      rw [fu_s, fu_s, tk_si (Nat.le_refl _), if_neg (by omega), if_neg h8]
    · rw [tk_si (by omega), tk_si (by omega), fu_n z]
      exact g2 t (by omega)
  · by_cases z : t = m + 1
    · subst z
      rw [fu_s]
      refine ⟨(g3 m (Nat.le_refl _)).1, ?_⟩
      rcases (g3 m (Nat.le_refl _)).2 with y | ⟨w, hw, e, f⟩
      · exact Or.inl y
      · refine Or.inr ⟨w, by omega, ?_, ?_⟩
        · rw [tk_si (by omega)]; exact e
        · rw [fu_n (by omega)]; exact f
    · rw [tk_si (by omega)]
      refine ⟨(g3 t (by omega)).1, ?_⟩
      rcases (g3 t (by omega)).2 with y | ⟨w, hw, e, f⟩
      · exact Or.inl y
      · refine Or.inr ⟨w, by omega, ?_, ?_⟩
        · rw [tk_si (by omega)]; exact e
        · rw [fu_n (by omega)]; exact f
  · by_cases z : t = m
    · subst z
      rw [fu_s]
      intro y
      exact absurd y h8
    · rw [fu_n z]
      intro y
      obtain ⟨w, hw, e, f, g, i⟩ := g4 t (by omega) y
      refine ⟨w, hw, ?_, ?_, ?_, ?_⟩
      · rw [tk_si (by omega), tk_si (by omega)]; exact e
      · rw [fu_s]; exact f
      · rw [pk_un (by omega)]; exact g
      · rw [fu_n (by omega), fu_n (by omega)]; exact i
  · by_cases z : t = m
    · subst z
      rw [fu_s]
      intro y
      omega
    · rw [fu_n z, fu_s]
      intro y
      rcases g5 t (by omega) y with w | ⟨c, c1, c2, c3, c4⟩
      · exact Or.inl w
      · refine Or.inr ⟨c, c1, by omega, ?_, ?_⟩
        · rw [fu_n (by omega)]; exact c3
        · rw [tk_si (by omega), tk_si (by omega)]; exact c4
/-- a token that opens a section -/
theorem tk_s2 {s m k p' : Nat} {G tM : Nat → Int32} {ps tp : Nat → Nat} {st : Nat → List Nat} (h : tk_s s m G tM ps tp st) (h6 : k = 6 ∨ k = 7) (hl : (st m).length < 2) (x : Int32) : tk_s s (m + 1) G (upd tM (s * 100 + m) x) (fu ps (m + 1) p') (fu tp m k) (fu st (m + 1) (m :: st m)) := by
  have hb := tk_sb h
  obtain ⟨g1, g2, g3, g4, g5⟩ := h
  refine ⟨by rw [tk_si (by omega)]; exact g1, fun t ht => ?_, fun t ht => ?_, fun t ht => ?_, fun t ht => ?_⟩
  · by_cases z : t = m
    · subst z
      rw [fu_s, fu_s, tk_si (Nat.le_refl _), if_pos h6]
    · rw [tk_si (by omega), tk_si (by omega), fu_n z]
      exact g2 t (by omega)
  · by_cases z : t = m + 1
    · subst z
      rw [fu_s]
      refine ⟨by simp only [List.length_cons]; omega, Or.inr ⟨m, by omega, ?_, ?_⟩⟩
      · rw [tk_si (Nat.le_refl _)]
      · rw [fu_s]; exact h6
    · rw [tk_si (by omega)]
      refine ⟨(g3 t (by omega)).1, ?_⟩
      rcases (g3 t (by omega)).2 with y | ⟨w, hw, e, f⟩
      · exact Or.inl y
      · refine Or.inr ⟨w, by omega, ?_, ?_⟩
        · rw [tk_si (by omega)]; exact e
        · rw [fu_n (by omega)]; exact f
  · by_cases z : t = m
    · subst z
      rw [fu_s]
      intro y
      omega
    · rw [fu_n z]
      intro y
      obtain ⟨w, hw, e, f, g, i⟩ := g4 t (by omega) y
      refine ⟨w, hw, ?_, ?_, ?_, ?_⟩
      · rw [tk_si (by omega), tk_si (by omega)]; exact e
      · rw [fu_s]
        intro q
        rcases List.mem_cons.mp q with q | q
        · omega
        · exact f q
      · rw [pk_un (by omega)]; exact g
      · rw [fu_n (by omega), fu_n (by omega)]; exact i
  · by_cases z : t = m
    · subst z
      rw [fu_s, fu_s]
      intro y
      exact Or.inl (List.mem_cons.mpr (Or.inl rfl))
    · rw [fu_n z, fu_s]
      intro y
      rcases g5 t (by omega) y with w | ⟨c, c1, c2, c3, c4⟩
      · exact Or.inl (List.mem_cons.mpr (Or.inr w))
      · refine Or.inr ⟨c, c1, by omega, ?_, ?_⟩
        · rw [fu_n (by omega)]; exact c3
        · rw [tk_si (by omega), tk_si (by omega)]; exact c4
/-- a token that closes the section h -/
theorem tk_s3 {s m p' h : Nat} {G tM ty tA tB : Nat → Int32} {ps tp : Nat → Nat} {st : Nat → List Nat} {p : Nat} (ha : tk_a s m p ty tA tB ps tp) (H : tk_s s m G tM ps tp st) (hh : h < m) (hs : st m = h :: st h) (x : Int32) : tk_s s (m + 1) (upd G (s * 96 + ps h) (nI (s * 96 + p'))) (upd (upd tM (s * 100 + h) (nI m)) (s * 100 + m) x) (fu ps (m + 1) p') (fu tp m 8) (fu st (m + 1) (st h)) := by
  have hb := tk_sb H
  obtain ⟨g1, g2, g3, g4, g5⟩ := H
  refine ⟨by rw [tk_si (by omega)]; exact g1, fun t ht => ?_, fun t ht => ?_, fun t ht => ?_, fun t ht => ?_⟩
  · by_cases z : t = m
    · subst z
      rw [fu_s, fu_s, tk_si (Nat.le_refl _), if_neg (by omega), if_pos rfl, hs]
      rfl
    · rw [tk_si (by omega), tk_si (by omega), fu_n z]
      exact g2 t (by omega)
  · by_cases z : t = m + 1
    · subst z
      rw [fu_s]
      refine ⟨(g3 h (by omega)).1, ?_⟩
      rcases (g3 h (by omega)).2 with y | ⟨w, hw, e, f⟩
      · exact Or.inl y
      · refine Or.inr ⟨w, by omega, ?_, ?_⟩
        · rw [tk_si (by omega)]; exact e
        · rw [fu_n (by omega)]; exact f
    · rw [tk_si (by omega)]
      refine ⟨(g3 t (by omega)).1, ?_⟩
      rcases (g3 t (by omega)).2 with y | ⟨w, hw, e, f⟩
      · exact Or.inl y
      · refine Or.inr ⟨w, by omega, ?_, ?_⟩
        · rw [tk_si (by omega)]; exact e
        · rw [fu_n (by omega)]; exact f
  · by_cases z : t = m
    · subst z
      intro _
      refine ⟨h, hh, ?_, ?_, ?_, ?_⟩
      · rw [tk_si (Nat.le_refl _), tk_si (by omega)]; exact hs
      · rw [fu_s]
        intro y
        have := hb t h (by omega) (by omega) h y
        omega
      · rw [pk_un (by omega), pk_us]
      · rw [fu_n (by omega), fu_s, pk_us]
    · rw [fu_n z]
      intro y
      obtain ⟨w, hw, e, f, g, i⟩ := g4 t (by omega) y
      have hwh : w ≠ h := by
        intro q
        apply f
        rw [hs, q]
        exact List.mem_cons.mpr (Or.inl rfl)
      refine ⟨w, hw, ?_, ?_, ?_, ?_⟩
      · rw [tk_si (by omega), tk_si (by omega)]; exact e
      · rw [fu_s]
        intro q
        apply f
        rw [hs]
        exact List.mem_cons.mpr (Or.inr q)
      · rw [pk_un (by omega), pk_un (by omega)]; exact g
      · rw [fu_n (by omega), fu_n (by omega), pk_un ?_]
        · exact i
        · intro q
          exact hwh (tk_inj ha (by omega) (by omega) (by omega))
  · by_cases z : t = m
    · subst z
      rw [fu_s]
      intro y
      omega
    · rw [fu_n z, fu_s]
      intro y
      rcases g5 t (by omega) y with w | ⟨c, c1, c2, c3, c4⟩
      · rw [hs] at w
        rcases List.mem_cons.mp w with w | w
        · subst w
          refine Or.inr ⟨m, hh, by omega, fu_s, ?_⟩
          rw [tk_si (Nat.le_refl _), tk_si (by omega)]; exact hs
        · exact Or.inl w
      · refine Or.inr ⟨c, c1, by omega, ?_, ?_⟩
        · rw [fu_n (by omega)]; exact c3
        · rw [tk_si (by omega), tk_si (by omega)]; exact c4
end LLT
end
section
section LLR
/-! the render's ghosts: entries (ty 6 section, 7 inverted, 9 inclusion; slot; token; value, of an inclusion its slot; index; frame) -/
def rn_z (PS MT : Nat → Nat → Nat) (e : Nat × Nat × Nat × Nat × Nat × Nat) : Nat := if e.1 = 9 then PS 0 (e.2.2.1 + 1) else PS e.2.1 (MT e.2.1 e.2.2.1 + 1)
def rn_b (PS : Nat → Nat → Nat) (e : Nat × Nat × Nat × Nat × Nat × Nat) : Nat := PS e.2.1 (e.2.2.1 + 1)
def rn_k (kd ct : Nat → Nat) (e : Nat × Nat × Nat × Nat × Nat × Nat) : Nat := if e.1 = 6 ∧ kd e.2.2.2.1 = 5 then ct e.2.2.2.1 - (e.2.2.2.2.1 + 1) else 0
def rn_r : List (Nat × Nat × Nat × Nat × Nat × Nat) → Nat
  | [] => 24608
  | e :: es => if e.1 = 9 then 16 else rn_r es / 4
def rn_p (PS MT : Nat → Nat → Nat) (kd ct ln : Nat → Nat) : List (Nat × Nat × Nat × Nat × Nat × Nat) → Nat → Nat
  | [], c => 24608 * (ln 0 - c) + 1
  | e :: es, c => if e.1 = 9 then 16 * (ln e.2.2.2.1 - c) + 1 + rn_p PS MT kd ct ln es (rn_z PS MT e) else rn_r (e :: es) * (rn_z PS MT e - c) + rn_k kd ct e * (rn_r (e :: es) * (rn_z PS MT e - rn_b PS e)) + rn_p PS MT kd ct ln es (rn_z PS MT e)
def rn_e (PS MT : Nat → Nat → Nat) (ln : Nat → Nat) : List (Nat × Nat × Nat × Nat × Nat × Nat) → Nat
  | [] => ln 0
  | e :: _ => if e.1 = 9 then ln e.2.2.2.1 else rn_z PS MT e
theorem rn_mul (r z c c' : Nat) (h : c ≤ c') (h' : c' ≤ z) : r * (z - c) = r * (z - c') + r * (c' - c) := by
  rw [← Nat.mul_add]
  exact congrArg _ (by omega)
theorem rn_d {PS MT : Nat → Nat → Nat} {kd ct ln : Nat → Nat} (es : List (Nat × Nat × Nat × Nat × Nat × Nat)) {c c' : Nat} (h : c ≤ c') (h' : c' ≤ rn_e PS MT ln es) : rn_p PS MT kd ct ln es c = rn_p PS MT kd ct ln es c' + rn_r es * (c' - c) := by
  cases es with
  | nil =>
    simp only [rn_p, rn_r, rn_e] at h' ⊢
    omega
  | cons e es =>
    by_cases z : e.1 = 9
    · simp only [rn_p, rn_r, rn_e, if_pos z] at h' ⊢
      omega
    · simp only [rn_e, if_neg z] at h'
      simp only [rn_p, if_neg z]
      rw [rn_mul (rn_r (e :: es)) (rn_z PS MT e) c c' h h']
      omega
/-- opening a section -/
theorem rn_o {PS MT : Nat → Nat → Nat} {kd ct ln : Nat → Nat} (e : Nat × Nat × Nat × Nat × Nat × Nat) (es : List (Nat × Nat × Nat × Nat × Nat × Nat)) {q : Nat} (h9 : e.1 ≠ 9) (hq : q < rn_b PS e) (hb : rn_b PS e ≤ rn_z PS MT e) (hz : rn_z PS MT e ≤ rn_e PS MT ln es) (hk : rn_k kd ct e ≤ 3) (hr : 1 ≤ rn_r es) : rn_p PS MT kd ct ln (e :: es) (rn_b PS e) < rn_p PS MT kd ct ln es q := by
  have h1 := rn_d (kd := kd) (ct := ct) es (c := q) (c' := rn_z PS MT e) (by omega) hz
  have h2 : rn_r (e :: es) = rn_r es / 4 := by simp only [rn_r, if_neg h9]
  simp only [rn_p, if_neg h9]
  rw [h1, h2]
  generalize rn_p PS MT kd ct ln es (rn_z PS MT e) = A
  generalize rn_z PS MT e = z at *
  generalize rn_b PS e = b at *
  generalize rn_k kd ct e = k at *
  generalize rn_r es = r at *
  have h3 : k * (r / 4 * (z - b)) ≤ 3 * (r / 4 * (z - b)) := Nat.mul_le_mul_right _ hk
  have h4 : 4 * (r / 4 * (z - b)) ≤ r * (z - b) := by
    rw [← Nat.mul_assoc]
    exact Nat.mul_le_mul_right _ (by omega)
  have h5 : r * (z - b) < r * (z - q) := Nat.mul_lt_mul_of_pos_left (by omega) (by omega)
  omega
/-- the last close -/
theorem rn_cl {PS MT : Nat → Nat → Nat} {kd ct ln : Nat → Nat} (e : Nat × Nat × Nat × Nat × Nat × Nat) (es : List (Nat × Nat × Nat × Nat × Nat × Nat)) {c : Nat} (h9 : e.1 ≠ 9) (hc : c < rn_z PS MT e) (hr : 1 ≤ rn_r (e :: es)) : rn_p PS MT kd ct ln es (rn_z PS MT e) < rn_p PS MT kd ct ln (e :: es) c := by
  simp only [rn_p, if_neg h9]
  have : 0 < rn_r (e :: es) * (rn_z PS MT e - c) := Nat.mul_pos (by omega) (by omega)
  omega
/-- a close that goes on with the next item -/
theorem rn_cn {PS MT : Nat → Nat → Nat} {kd ct ln : Nat → Nat} (e e' : Nat × Nat × Nat × Nat × Nat × Nat) (es : List (Nat × Nat × Nat × Nat × Nat × Nat)) {c : Nat} (h9 : e.1 ≠ 9) (h9' : e'.1 ≠ 9) (hz : rn_z PS MT e' = rn_z PS MT e) (hb : rn_b PS e' = rn_b PS e) (hk : rn_k kd ct e = rn_k kd ct e' + 1) (hc : c < rn_z PS MT e) (hr : 1 ≤ rn_r (e :: es)) : rn_p PS MT kd ct ln (e' :: es) (rn_b PS e') < rn_p PS MT kd ct ln (e :: es) c := by
  have h1 : rn_r (e' :: es) = rn_r (e :: es) := by simp only [rn_r, if_neg h9, if_neg h9']
  simp only [rn_p, if_neg h9, if_neg h9']
  rw [h1, hz, hb, hk]
  have : 0 < rn_r (e :: es) * (rn_z PS MT e - c) := Nat.mul_pos (by omega) (by omega)
  rw [Nat.add_mul, Nat.one_mul]
  omega
/-- what stands on the stack at slot s where the begun sections are hs -/
def rn_m (M : Nat → Nat) (TP : Nat → Nat → Nat) (ST : Nat → Nat → List Nat) (nv : Nat) : List (Nat × Nat × Nat × Nat × Nat × Nat) → Nat → List Nat → Prop
  | [], s, hs => s = 0 ∧ hs = []
  | e :: es, s, hs => (e.1 = 9 ∧ s ≠ 0 ∧ s = e.2.2.2.1 ∧ hs = [] ∧ e.2.1 = 0 ∧ e.2.2.1 < M 0 ∧ TP 0 e.2.2.1 = 9 ∧ rn_m M TP ST nv es 0 (ST 0 e.2.2.1)) ∨
      ((e.1 = 6 ∨ e.1 = 7) ∧ e.2.1 = s ∧ e.2.2.1 < M s ∧ e.1 = TP s e.2.2.1 ∧ hs = e.2.2.1 :: ST s e.2.2.1 ∧ (e.1 = 6 → (1 ≤ e.2.2.2.1 ∧ e.2.2.2.1 ≤ nv ∧ e.2.2.2.2.1 ≤ 4) ∧ (1 ≤ e.2.2.2.2.2 ∧ e.2.2.2.2.2 ≤ nv)) ∧ rn_m M TP ST nv es s (ST s e.2.2.1))
theorem rn_rt {M : Nat → Nat} {TP : Nat → Nat → Nat} {ST : Nat → Nat → List Nat} {nv : Nat} : ∀ (es : List (Nat × Nat × Nat × Nat × Nat × Nat)) (s : Nat) (hs : List Nat), rn_m M TP ST nv es s hs → rn_r es = (if s = 0 then 24608 else 16) / 4 ^ hs.length := by
  intro es
  induction es with
  | nil =>
    intro s hs h
    obtain ⟨h1, h2⟩ := h
    subst h1 h2
    rfl
  | cons e es ih =>
    intro s hs h
    rcases h with ⟨h1, h2, h3, h4, _⟩ | ⟨h1, h2, h3, h4, h5, h6, h7⟩
    · subst h4
      simp only [rn_r, if_pos h1, if_neg h2]
      rfl
    · have := ih s _ h7
      have h9 : ¬ e.1 = 9 := by omega
      subst h5
      simp only [rn_r, if_neg h9, List.length_cons]
      rw [this, Nat.pow_succ, Nat.div_div_eq_div_mul]
theorem rn_len {M : Nat → Nat} {TP : Nat → Nat → Nat} {ST : Nat → Nat → List Nat} {nv : Nat} (hST : ∀ t, t < M 0 → (ST 0 t).length ≤ 2) : ∀ (es : List (Nat × Nat × Nat × Nat × Nat × Nat)) (s : Nat) (hs : List Nat), rn_m M TP ST nv es s hs → es.length ≤ hs.length + (if s = 0 then 0 else 3) := by
  intro es
  induction es with
  | nil => intro s hs h; exact Nat.zero_le _
  | cons e es ih =>
    intro s hs h
    rcases h with ⟨h1, h2, h3, h4, h5, h6, _, h7⟩ | ⟨h1, h2, h3, h4, h5, h6, h7⟩
    · have hA := ih 0 _ h7
      have hB := hST _ h6
      subst h4
      rw [if_neg h2]
      rw [if_pos rfl] at hA
      simp only [List.length_cons, List.length_nil]
      omega
    · have := ih s _ h7
      subst h5
      simp only [List.length_cons]
      omega
/-- the top value -/
def rn_t (root : Nat) : List (Nat × Nat × Nat × Nat × Nat × Nat) → Nat
  | [] => root
  | e :: es => if e.1 = 6 then e.2.2.2.2.2 else rn_t root es
theorem rn_tv {M : Nat → Nat} {TP : Nat → Nat → Nat} {ST : Nat → Nat → List Nat} {nv root : Nat} (h1 : 1 ≤ root) (h2 : root ≤ nv) : ∀ (es : List (Nat × Nat × Nat × Nat × Nat × Nat)) (s : Nat) (hs : List Nat), rn_m M TP ST nv es s hs → 1 ≤ rn_t root es ∧ rn_t root es ≤ nv := by
  intro es
  induction es with
  | nil => intro s hs h; exact ⟨h1, h2⟩
  | cons e es ih =>
    intro s hs h
    rcases h with ⟨g1, _, _, _, _, _, _, g7⟩ | ⟨g1, g2, g3, g4, g5, g6, g7⟩
    · have h6 : ¬ e.1 = 6 := by omega
      simp only [rn_t, if_neg h6]
      exact ih _ _ g7
    · by_cases z : e.1 = 6
      · simp only [rn_t, if_pos z]
        exact (g6 z).2
      · simp only [rn_t, if_neg z]
        exact ih _ _ g7
/-- the look up of a letter, F the field of each value -/
def rn_l (root : Nat) (F : Nat → Int32) : List (Nat × Nat × Nat × Nat × Nat × Nat) → Int32
  | [] => F root
  | e :: es => if e.1 = 6 then (if F e.2.2.2.2.2 = 0 then rn_l root F es else F e.2.2.2.2.2) else rn_l root F es
theorem rn_lt (root : Nat) (F : Nat → Int32) : ∀ es, ¬ F (rn_t root es) = 0 → rn_l root F es = F (rn_t root es) := by
  intro es
  induction es with
  | nil => intro _; rfl
  | cons e es ih =>
    intro h
    by_cases z : e.1 = 6
    · simp only [rn_t, if_pos z] at h
      simp only [rn_t, rn_l, if_pos z, if_neg h]
    · simp only [rn_t, if_neg z] at h
      simp only [rn_t, rn_l, if_neg z]
      exact ih h
/-- the stacks of both sides against the entries -/
def rn_s (PS : Nat → Nat → Nat) (kd : Nat → Nat) (root : Nat) (fV fL fN fB yv cK cS cT cV cI : Nat → Int32) : List (Nat × Nat × Nat × Nat × Nat × Nat) → Nat → Nat → Nat → Prop
  | [], fc, fn, cn => fc = 1 ∧ fn = 1 ∧ cn = 0 ∧ fV 0 = nI root ∧ yv 0 = nI root
  | e :: es, fc, fn, cn => ∃ fc' fn' cn', rn_s PS kd root fV fL fN fB yv cK cS cT cV cI es fc' fn' cn' ∧ cn = cn' + 1 ∧ cK cn' = nI e.1 ∧ cS cn' = nI e.2.1 ∧ cT cn' = nI e.2.2.1 ∧
      ((e.1 = 6 ∧ fc = fc' + 1 ∧ fn = fn' + 1 ∧ cV cn' = nI e.2.2.2.1 ∧ cI cn' = nI e.2.2.2.2.1 ∧ fV fc' = nI e.2.2.2.2.2 ∧ yv fn' = nI e.2.2.2.2.2 ∧ fL fc' = nI (if kd e.2.2.2.1 = 5 then e.2.2.2.1 else 0) ∧ fN fc' = nI (e.2.2.2.2.1 + 1) ∧ fB fc' = nI (e.2.1 * 96 + PS e.2.1 (e.2.2.1 + 1))) ∨
       (e.1 = 7 ∧ fc = fc' + 1 ∧ fn = fn' ∧ fV fc' = nI (rn_t root es) ∧ fL fc' = 0) ∨
       (e.1 = 9 ∧ fc = fc' ∧ fn = fn'))
theorem rn_sn {PS : Nat → Nat → Nat} {kd : Nat → Nat} {root : Nat} {fV fL fN fB yv cK cS cT cV cI : Nat → Int32} : ∀ es fc fn cn, rn_s PS kd root fV fL fN fB yv cK cS cT cV cI es fc fn cn → 1 ≤ fc ∧ fc ≤ es.length + 1 ∧ 1 ≤ fn ∧ fn ≤ es.length + 1 ∧ cn = es.length := by
  intro es
  induction es with
  | nil => intro fc fn cn h; obtain ⟨h1, h2, h3, _⟩ := h; simp only [List.length_nil]; omega
  | cons e es ih =>
    intro fc fn cn h
    obtain ⟨fc', fn', cn', h1, h2, _, _, _, h6⟩ := h
    have := ih _ _ _ h1
    simp only [List.length_cons]
    rcases h6 with ⟨_, a, b, _⟩ | ⟨_, a, b, _⟩ | ⟨_, a, b⟩ <;> omega
/-- X's frames are one for each section entry, and the root's -/
def rn_n : List (Nat × Nat × Nat × Nat × Nat × Nat) → Nat
  | [] => 1
  | e :: es => if e.1 = 9 then rn_n es else rn_n es + 1
theorem rn_sf {PS : Nat → Nat → Nat} {kd : Nat → Nat} {root : Nat} {fV fL fN fB yv cK cS cT cV cI : Nat → Int32} : ∀ es fc fn cn, rn_s PS kd root fV fL fN fB yv cK cS cT cV cI es fc fn cn → fc = rn_n es := by
  intro es
  induction es with
  | nil => intro fc fn cn h; exact h.1
  | cons e es ih =>
    intro fc fn cn h
    obtain ⟨fc', fn', cn', h1, h2, _, _, _, h6⟩ := h
    have := ih _ _ _ h1
    rcases h6 with ⟨a, b, _⟩ | ⟨a, b, _⟩ | ⟨a, b, _⟩
    · simp only [rn_n, if_neg (show ¬ e.1 = 9 from by omega)]; omega
    · simp only [rn_n, if_neg (show ¬ e.1 = 9 from by omega)]; omega
    · simp only [rn_n, if_pos a]; omega
theorem rn_nl {M : Nat → Nat} {TP : Nat → Nat → Nat} {ST : Nat → Nat → List Nat} {nv : Nat} (hST : ∀ t, t < M 0 → (ST 0 t).length ≤ 2) : ∀ (es : List (Nat × Nat × Nat × Nat × Nat × Nat)) (s : Nat) (hs : List Nat), rn_m M TP ST nv es s hs → rn_n es ≤ hs.length + (if s = 0 then 1 else 3) := by
  intro es
  induction es with
  | nil => intro s hs h; rw [h.1, h.2]; decide
  | cons e es ih =>
    intro s hs h
    rcases h with ⟨h1, h2, h3, h4, h5, h6, _, h7⟩ | ⟨h1, h2, h3, h4, h5, h6, h7⟩
    · have hA := ih 0 _ h7
      have hB := hST _ h6
      subst h4
      rw [if_neg h2]
      rw [if_pos rfl] at hA
      simp only [rn_n, if_pos h1, List.length_nil]
      omega
    · have := ih s _ h7
      subst h5
      simp only [rn_n, if_neg (show ¬ e.1 = 9 from by omega), List.length_cons]
      omega
theorem rn_st {PS : Nat → Nat → Nat} {kd : Nat → Nat} {root : Nat} {fV fL fN fB yv cK cS cT cV cI : Nat → Int32} : ∀ es fc fn cn, rn_s PS kd root fV fL fN fB yv cK cS cT cV cI es fc fn cn → fV (fc - 1) = nI (rn_t root es) ∧ yv (fn - 1) = nI (rn_t root es) := by
  intro es
  induction es with
  | nil => intro fc fn cn h; obtain ⟨h1, h2, h3, h4, h5⟩ := h; subst h1 h2; exact ⟨h4, h5⟩
  | cons e es ih =>
    intro fc fn cn h
    obtain ⟨fc', fn', cn', h1, h2, _, _, _, h6⟩ := h
    have := ih _ _ _ h1
    rcases h6 with ⟨a, b, c, _, _, d, f, _⟩ | ⟨a, b, c, d, _⟩ | ⟨a, b, c⟩
    · subst b c
      simp only [rn_t, if_pos a, Nat.add_sub_cancel]
      exact ⟨d, f⟩
    · subst b c
      simp only [rn_t, if_neg (show ¬ e.1 = 6 from by omega), Nat.add_sub_cancel]
      exact ⟨d, this.2⟩
    · subst b c
      simp only [rn_t, if_neg (show ¬ e.1 = 6 from by omega)]
      exact this
/-- writes above the stacks' heights change nothing -/
theorem rn_sc {PS : Nat → Nat → Nat} {kd : Nat → Nat} {root : Nat} {fV fL fN fB yv cK cS cT cV cI fV' fL' fN' fB' yv' cK' cS' cT' cV' cI' : Nat → Int32} : ∀ es fc fn cn, rn_s PS kd root fV fL fN fB yv cK cS cT cV cI es fc fn cn →
    (∀ j, j < fc → fV' j = fV j ∧ fL' j = fL j ∧ fN' j = fN j ∧ fB' j = fB j) → (∀ j, j < fn → yv' j = yv j) → (∀ j, j < cn → cK' j = cK j ∧ cS' j = cS j ∧ cT' j = cT j ∧ cV' j = cV j ∧ cI' j = cI j) → rn_s PS kd root fV' fL' fN' fB' yv' cK' cS' cT' cV' cI' es fc fn cn := by
  intro es
  induction es with
  | nil =>
    intro fc fn cn h a b c
    obtain ⟨h1, h2, h3, h4, h5⟩ := h
    exact ⟨h1, h2, h3, by rw [(a 0 (by omega)).1]; exact h4, by rw [b 0 (by omega)]; exact h5⟩
  | cons e es ih =>
    intro fc fn cn h a b c
    obtain ⟨fc', fn', cn', h1, h2, h3, h4, h5, h6⟩ := h
    have ec := c cn' (by omega)
    have hi : rn_s PS kd root fV' fL' fN' fB' yv' cK' cS' cT' cV' cI' es fc' fn' cn' := by
      apply ih _ _ _ h1
      · intro j hj
        exact a j (by rcases h6 with ⟨_, x, y, _⟩ | ⟨_, x, y, _⟩ | ⟨_, x, y⟩ <;> omega)
      · intro j hj
        exact b j (by rcases h6 with ⟨_, x, y, _⟩ | ⟨_, x, y, _⟩ | ⟨_, x, y⟩ <;> omega)
      · intro j hj
        exact c j (by omega)
    refine ⟨fc', fn', cn', hi, h2, by rw [ec.1]; exact h3, by rw [ec.2.1]; exact h4, by rw [ec.2.2.1]; exact h5, ?_⟩
    rcases h6 with ⟨x1, x2, x3, x4, x5, x6, x7, x8, x9, x10⟩ | ⟨x1, x2, x3, x4, x5⟩ | h6
    · have ea := a fc' (by omega)
      have eb := b fn' (by omega)
      exact Or.inl ⟨x1, x2, x3, by rw [ec.2.2.2.1]; exact x4, by rw [ec.2.2.2.2]; exact x5, by rw [ea.1]; exact x6, by rw [eb]; exact x7, by rw [ea.2.1]; exact x8, by rw [ea.2.2.1]; exact x9, by rw [ea.2.2.2]; exact x10⟩
    · have ea := a fc' (by omega)
      exact Or.inr (Or.inl ⟨x1, x2, x3, by rw [ea.1]; exact x4, by rw [ea.2.1]; exact x5⟩)
    · exact Or.inr (Or.inr h6)
end LLR
end
section
section LLE
/-! emitting into a bounded output: (content, count, overflowed) -/
def em_1 (cap : Nat) (s : (Nat → Int32) × Nat × Int32) (c : Int32) : (Nat → Int32) × Nat × Int32 := if cap ≤ s.2.1 then (s.1, s.2.1, 1) else (upd s.1 s.2.1 c, s.2.1 + 1, s.2.2)
def em_l (cap : Nat) (s : (Nat → Int32) × Nat × Int32) (l : List Int32) : (Nat → Int32) × Nat × Int32 := l.foldl (em_1 cap) s
theorem em_n (cap : Nat) (s : (Nat → Int32) × Nat × Int32) : em_l cap s [] = s := rfl
theorem em_c (cap : Nat) (s : (Nat → Int32) × Nat × Int32) (c : Int32) (l : List Int32) : em_l cap s (c :: l) = em_l cap (em_1 cap s c) l := rfl
theorem em_a (cap : Nat) (s : (Nat → Int32) × Nat × Int32) (l l' : List Int32) : em_l cap s (l ++ l') = em_l cap (em_l cap s l) l' := List.foldl_append
/-- a full output stays -/
theorem em_v (cap : Nat) : ∀ (l : List Int32) (s : (Nat → Int32) × Nat × Int32), cap ≤ s.2.1 → s.2.2 = 1 → em_l cap s l = s := by
  intro l
  induction l with
  | nil => intro s _ _; rfl
  | cons c l ih =>
    intro s h1 h2
    have e : em_1 cap s c = s := by
      unfold em_1
      rw [if_pos h1, ← h2]
    rw [em_c, e]
    exact ih s h1 h2
/-- what holds of a state behind emits -/
def em_g (cap : Nat) (s : (Nat → Int32) × Nat × Int32) : Prop := s.2.1 ≤ cap ∧ (s.2.2 = 0 ∨ (s.2.2 = 1 ∧ cap ≤ s.2.1))
theorem em_g1 {cap : Nat} {s : (Nat → Int32) × Nat × Int32} (h : em_g cap s) (c : Int32) : em_g cap (em_1 cap s c) := by
  obtain ⟨h1, h2⟩ := h
  unfold em_1
  by_cases z : cap ≤ s.2.1
  · rw [if_pos z]
    exact ⟨h1, Or.inr ⟨rfl, z⟩⟩
  · rw [if_neg z]
    refine ⟨by show s.2.1 + 1 ≤ cap; omega, ?_⟩
    rcases h2 with h2 | ⟨_, h2⟩
    · exact Or.inl h2
    · omega
theorem em_gl {cap : Nat} : ∀ (l : List Int32) {s : (Nat → Int32) × Nat × Int32}, em_g cap s → em_g cap (em_l cap s l) := by
  intro l
  induction l with
  | nil => intro s h; exact h
  | cons c l ih => intro s h; rw [em_c]; exact ih (em_g1 h c)
/-- once over, over: what is emitted behind changes nothing -/
theorem em_st {cap : Nat} {s : (Nat → Int32) × Nat × Int32} (h : em_g cap s) (hv : ¬ s.2.2 = 0) (l : List Int32) : em_l cap s l = s := by
  rcases h.2 with z | ⟨z1, z2⟩
  · exact absurd z hv
  · exact em_v cap l s z2 z1
/-- the escape of a character -/
def em_e (c : Int32) : List Int32 := if c = 38 then [38, 97, 109, 112, 59] else if c = 60 then [38, 108, 116, 59] else if c = 62 then [38, 103, 116, 59] else if c = 34 then [38, 113, 117, 111, 116, 59] else if c = 39 then [38, 35, 51, 57, 59] else [c]
def em_h (esc : Bool) (c : Int32) : List Int32 := if esc then em_e c else [c]
/-- the characters g i, g (i+1) .., d of them, each escaped or not -/
def em_u (esc : Bool) (g : Nat → Int32) : Nat → Nat → List Int32
  | 0, _ => []
  | d + 1, i => em_h esc (g i) ++ em_u esc g d (i + 1)
theorem em_us (esc : Bool) (g : Nat → Int32) (d i : Nat) : em_u esc g (d + 1) i = em_h esc (g i) ++ em_u esc g d (i + 1) := rfl
theorem em_ucg {esc : Bool} {g g' : Nat → Int32} : ∀ d i, (∀ j, i ≤ j → j < i + d → g j = g' j) → em_u esc g d i = em_u esc g' d i := by
  intro d
  induction d with
  | zero => intro i _; rfl
  | succ d ih => intro i h; rw [em_us, em_us, h i (by omega) (by omega), ih (i + 1) (fun j h1 h2 => h j (by omega) (by omega))]
/-- the characters g (d-1), .., g 0 -/
def em_d (g : Nat → Int32) : Nat → List Int32
  | 0 => []
  | d + 1 => g d :: em_d g d
theorem em_ds (g : Nat → Int32) (d : Nat) : em_d g (d + 1) = g d :: em_d g d := rfl
theorem em_ud {esc : Bool} {g g' : Nat → Int32} : ∀ d i, (∀ j, j < d → g (i + j) = g' (d - 1 - j)) → (∀ k, k < d → em_h esc (g' k) = [g' k]) → em_u esc g d i = em_d g' d := by
  intro d
  induction d with
  | zero => intro i _ _; rfl
  | succ d ih =>
    intro i h hp
    rw [em_us, em_ds]
    have h0 := h 0 (by omega)
    rw [Nat.add_zero, show d + 1 - 1 - 0 = d from by omega] at h0
    rw [h0, hp d (by omega), ih (i + 1) (fun j hj => ?_) (fun k hk => hp k (by omega))]
    · rfl
    · have := h (j + 1) (by omega)
      rw [show i + 1 + j = i + (j + 1) from by omega, this]
      exact congrArg g' (by omega)
theorem em_plain {esc : Bool} {c : Int32} (h1 : c ≠ 38) (h2 : c ≠ 60) (h3 : c ≠ 62) (h4 : c ≠ 34) (h5 : c ≠ 39) : em_h esc c = [c] := by
  unfold em_h em_e
  rw [if_neg h1, if_neg h2, if_neg h3, if_neg h4, if_neg h5]
  split <;> rfl
theorem em_digit {esc : Bool} {m : Int32} (h : m.toInt ≤ 0) (k : Nat) : em_h esc (ll_dg m k) = [ll_dg m k] := by
  have hr := ll_dg_r h k
  have hd : ∀ a : Int32, a.toInt < 48 ∨ 57 < a.toInt → ll_dg m k ≠ a := by
    intro a ha e
    rw [e] at hr
    omega
  exact em_plain (hd 38 (by decide)) (hd 60 (by decide)) (hd 62 (by decide)) (hd 34 (by decide)) (hd 39 (by decide))
/-- how many digits -/
def em_q (m : Int32) : Nat → Nat → Nat
  | 0, c => c
  | d + 1, c => if ll_it m c = 0 then c else em_q m d (c + 1)
theorem em_qs (m : Int32) (d c : Nat) : em_q m (d + 1) c = if ll_it m c = 0 then c else em_q m d (c + 1) := rfl
theorem em_qb (m : Int32) : ∀ d c, c ≤ em_q m d c ∧ em_q m d c ≤ c + d := by
  intro d
  induction d with
  | zero => intro c; exact ⟨Nat.le_refl _, Nat.le_refl _⟩
  | succ d ih =>
    intro c
    rw [em_qs]
    have := ih (c + 1)
    split <;> omega
end LLE
end
section
section LLF
/-! the tie depends on the slot's own cells alone -/
theorem tk_acg {s m p : Nat} {ty tA tB ty' tA' tB' : Nat → Int32} {ps tp : Nat → Nat} (hm : m ≤ 100) (h : tk_a s m p ty tA tB ps tp) (e : ∀ j, j < 100 → ty' (s * 100 + j) = ty (s * 100 + j) ∧ tA' (s * 100 + j) = tA (s * 100 + j) ∧ tB' (s * 100 + j) = tB (s * 100 + j)) : tk_a s m p ty' tA' tB' ps tp := by
  refine ⟨h.1, h.2.1, fun t ht => ?_⟩
  rw [(e t (by omega)).1, (e t (by omega)).2.1, (e t (by omega)).2.2]
  exact h.2.2 t ht
theorem tk_ccg {s n m p : Nat} {T K N E R tN T' K' N' E' R' tN' ty tA tB : Nat → Int32} {ps tp : Nat → Nat} (hm : m ≤ 100) (hn : n ≤ 96) (hp : p ≤ n) (ha : tk_a s m p ty tA tB ps tp) (h : tk_c s n m p T K N E R tN ps tp) (e : ∀ c, c < 96 → T' c = T c ∧ K' (s * 96 + c) = K (s * 96 + c) ∧ N' (s * 96 + c) = N (s * 96 + c) ∧ E' (s * 96 + c) = E (s * 96 + c) ∧ R' (s * 96 + c) = R (s * 96 + c)) (eN : ∀ j, j < 100 → tN' (s * 100 + j) = tN (s * 100 + j)) : tk_c s n m p T' K' N' E' R' tN' ps tp := by
  obtain ⟨h1, h2, h3, h4, h5⟩ := h
  have hl : ∀ t, t < m → ps t < 96 := by
    intro t ht
    have a := tk_lt ha (t := t) (t' := m) ht (Nat.le_refl _)
    rw [ha.2.1] at a
    omega
  refine ⟨fun t ht z c c1 c2 => ?_, fun t ht z => ?_, fun t ht z => ?_, fun c hc => ?_, fun c c1 c2 => ?_⟩
  · have := tk_ap ha (t := t + 1) (by omega)
    rw [(e c (by omega)).2.1]
    exact h1 t ht z c c1 c2
  · have a := e (ps t) (hl t ht)
    rw [a.2.1, a.2.2.2.1, a.1]
    exact h2 t ht z
  · have a := e (ps t) (hl t ht)
    rw [a.2.2.1, eN t (by omega)]
    exact h3 t ht z
  · have a := e c (by omega)
    rw [a.2.1, a.2.2.2.2, a.1]
    exact h4 c hc
  · have a := e c (by omega)
    rw [a.2.1]
    exact h5 c c1 c2
theorem tk_scg {s m p : Nat} {G tM G' tM' ty tA tB : Nat → Int32} {ps tp : Nat → Nat} {st : Nat → List Nat} (hm : m ≤ 100) (hp : p ≤ 96) (ha : tk_a s m p ty tA tB ps tp) (h : tk_s s m G tM ps tp st) (e : ∀ c, c < 96 → G' (s * 96 + c) = G (s * 96 + c)) (eM : ∀ j, j < 100 → tM' (s * 100 + j) = tM (s * 100 + j)) : tk_s s m G' tM' ps tp st := by
  obtain ⟨h1, h2, h3, h4, h5⟩ := h
  refine ⟨h1, h2, h3, fun t ht z => ?_, h5⟩
  obtain ⟨w, w1, w2, w3, w4, w5⟩ := h4 t ht z
  have a := tk_lt ha (t := w) (t' := m) (by omega) (Nat.le_refl _)
  rw [ha.2.1] at a
  refine ⟨w, w1, w2, w3, ?_, ?_⟩
  · rw [eM w (by omega)]; exact w4
  · rw [e (ps w) (by omega)]; exact w5
/-- a slot compiled: X's tables K N E G, Y's removed R and tokens -/
def tk_F (s n : Nat) (T K N E G R ty tA tB tN tM : Nat → Int32) (m : Nat) (ps tp : Nat → Nat) (st : Nat → List Nat) : Prop :=
  tk_a s m n ty tA tB ps tp ∧ tk_c s n m n T K N E R tN ps tp ∧ tk_s s m G tM ps tp st ∧ st m = [] ∧ (s ≠ 0 → ∀ t, t < m → tp t ≠ 9)
theorem tk_Fcg {s n : Nat} {T K N E G R ty tA tB tN tM T' K' N' E' G' R' ty' tA' tB' tN' tM' : Nat → Int32} {m : Nat} {ps tp : Nat → Nat} {st : Nat → List Nat} (hn : n ≤ 96) (h : tk_F s n T K N E G R ty tA tB tN tM m ps tp st)
    (e : ∀ c, c < 96 → T' c = T c ∧ K' (s * 96 + c) = K (s * 96 + c) ∧ N' (s * 96 + c) = N (s * 96 + c) ∧ E' (s * 96 + c) = E (s * 96 + c) ∧ G' (s * 96 + c) = G (s * 96 + c) ∧ R' (s * 96 + c) = R (s * 96 + c))
    (eY : ∀ j, j < 100 → ty' (s * 100 + j) = ty (s * 100 + j) ∧ tA' (s * 100 + j) = tA (s * 100 + j) ∧ tB' (s * 100 + j) = tB (s * 100 + j) ∧ tN' (s * 100 + j) = tN (s * 100 + j) ∧ tM' (s * 100 + j) = tM (s * 100 + j)) :
    tk_F s n T' K' N' E' G' R' ty' tA' tB' tN' tM' m ps tp st := by
  obtain ⟨h1, h2, h3, h4, h5⟩ := h
  have hm : m ≤ 100 := by
    have := tk_mp h1
    omega
  exact ⟨tk_acg hm h1 (fun j hj => ⟨(eY j hj).1, (eY j hj).2.1, (eY j hj).2.2.1⟩),
    tk_ccg hm hn (Nat.le_refl _) h1 h2 (fun c hc => ⟨(e c hc).1, (e c hc).2.1, (e c hc).2.2.1, (e c hc).2.2.2.1, (e c hc).2.2.2.2.2⟩) (fun j hj => (eY j hj).2.2.2.1),
    tk_scg hm hn h1 h3 (fun c hc => (e c hc).2.2.2.2.1) (fun j hj => (eY j hj).2.2.2.2), h4, h5⟩
/-- the store of values, both sides: kd and ct by id -/
def vl_R (nv : Nat) (kd ct : Nat → Nat) (xk am pt fd yk yn yc ys yi yq yv : Nat → Int32) : Prop := nv ≤ 32 ∧ ∀ j, j < nv →
  1 ≤ kd (j + 1) ∧ kd (j + 1) ≤ 6 ∧ ct (j + 1) ≤ 8 ∧ xk (j + 1) = nI (kd (j + 1)) ∧ yk j = nI (kd (j + 1)) ∧ yc j = nI (ct (j + 1)) ∧
  (kd (j + 1) = 3 → am (j + 1) = yn j) ∧ (kd (j + 1) ≠ 3 → am (j + 1) = nI (ct (j + 1))) ∧ (kd (j + 1) < 4 → ct (j + 1) = 0) ∧ (5 ≤ kd (j + 1) → ct (j + 1) ≤ 4) ∧
  (kd (j + 1) = 4 → ∀ i, i < ct (j + 1) → pt ((j + 1) * 8 + i) = ys (j * 8 + i)) ∧
  (kd (j + 1) = 5 → ∀ i, i < ct (j + 1) → pt ((j + 1) * 8 + i) = yi (j * 4 + i) ∧ ∃ w, 1 ≤ w ∧ w ≤ nv ∧ yi (j * 4 + i) = nI w) ∧
  (kd (j + 1) = 6 → ∀ i, i < ct (j + 1) → pt ((j + 1) * 8 + i) = yq (j * 4 + i) ∧ fd ((j + 1) * 4 + i) = yv (j * 4 + i) ∧ ∃ w, 1 ≤ w ∧ w ≤ nv ∧ yv (j * 4 + i) = nI w)
end LLF
end
section
section LLS
/-! the tie while both sides read the text -/
def cp_O (s : Nat) (N oT oN oK : Nat → Int32) (ps : Nat → Nat) : List Nat → Prop
  | [] => True
  | h :: r => oT r.length = nI (s * 96 + ps h) ∧ oK r.length = nI h ∧ oN r.length = N (s * 96 + ps h) ∧ cp_O s N oT oN oK ps r
theorem cp_Ocg {s : Nat} {N oT oN oK N' oT' oN' oK' : Nat → Int32} {ps ps' : Nat → Nat} : ∀ l : List Nat, cp_O s N oT oN oK ps l → (∀ h, h ∈ l → ps' h = ps h ∧ N' (s * 96 + ps h) = N (s * 96 + ps h)) → (∀ i, i < l.length → oT' i = oT i ∧ oN' i = oN i ∧ oK' i = oK i) → cp_O s N' oT' oN' oK' ps' l := by
  intro l
  induction l with
  | nil => intro _ _ _; trivial
  | cons h r ih =>
    intro H a b
    obtain ⟨h1, h2, h3, h4⟩ := H
    have a1 := a h (List.mem_cons.mpr (Or.inl rfl))
    have b1 := b r.length (by simp only [List.length_cons]; omega)
    refine ⟨?_, ?_, ?_, ih h4 (fun x hx => a x (List.mem_cons.mpr (Or.inr hx))) (fun i hi => b i (by simp only [List.length_cons]; omega))⟩
    · rw [b1.1, a1.1]; exact h1
    · rw [b1.2.2]; exact h2
    · rw [b1.2.1, a1.1, a1.2]; exact h3
def cp_I (s n p ol cl m : Nat) (ps tp : Nat → Nat) (st : Nat → List Nat) (T K N E G oM cM oT R ty tA tB tN tM oc cc oN oK : Nat → Int32) : Prop :=
  tk_a s m p ty tA tB ps tp ∧ tk_c s n m p T K N E R tN ps tp ∧ tk_s s m G tM ps tp st ∧ cp_O s N oT oN oK ps (st m) ∧ (∀ i, i < ol → oc i = oM i) ∧ (∀ i, i < cl → cc i = cM i) ∧ (s ≠ 0 → ∀ t, t < m → tp t ≠ 9)
/-- a literal -/
theorem cp_lit {s n p ol cl m : Nat} {ps tp : Nat → Nat} {st : Nat → List Nat} {T K N E G oM cM oT R ty tA tB tN tM oc cc oN oK : Nat → Int32} (h : cp_I s n p ol cl m ps tp st T K N E G oM cM oT R ty tA tB tN tM oc cc oN oK) {q : Nat} (hp : p < q) (hq : q ≤ n) (x y : Int32) :
    cp_I s n q ol cl (m + 1) (fu ps (m + 1) q) (fu tp m 1) (fu st (m + 1) (st m)) T K N E G oM cM oT R (upd ty (s * 100 + m) (nI 1)) (upd tA (s * 100 + m) (nI p)) (upd tB (s * 100 + m) (nI q)) (upd tN (s * 100 + m) x) (upd tM (s * 100 + m) y) oc cc oN oK := by
  obtain ⟨h1, h2, h3, h4, h5, h6, h7⟩ := h
  refine ⟨tk_a1 h1 hp (by omega) (by omega), tk_c1 h1 h2 hp hq, tk_s1 h3 (by omega) (by omega) (by omega) y, ?_, h5, h6, fun z t ht => ?_⟩
  · rw [fu_s]
    refine cp_Ocg _ h4 (fun w hw => ?_) (fun i _ => ⟨rfl, rfl, rfl⟩)
    have := tk_sb h3 m m (Nat.le_refl _) (Nat.le_refl _) w hw
    exact ⟨fu_n (by omega), rfl⟩
  · by_cases e : t = m
    · rw [e, fu_s]; omega
    · rw [fu_n e]; exact h7 z t (by omega)
theorem cp_len {s n p ol cl m : Nat} {ps tp : Nat → Nat} {st : Nat → List Nat} {T K N E G oM cM oT R ty tA tB tN tM oc cc oN oK : Nat → Int32} (h : cp_I s n p ol cl m ps tp st T K N E G oM cM oT R ty tA tB tN tM oc cc oN oK) : (st m).length ≤ 2 := (h.2.2.1.2.2.1 m (Nat.le_refl _)).1
section TAG
variable {s n q ol cl m : Nat} {ps tp : Nat → Nat} {st : Nat → List Nat} {T K N E G oM cM oT R ty tA tB tN tM oc cc oN oK K' N' R' oM' cM' oc' cc' : Nat → Int32}
/-- a tag that begins and ends no section; the marks may change -/
theorem cp_tag (h : cp_I s n q ol cl m ps tp st T K N E G oM cM oT R ty tA tB tN tM oc cc oN oK) {ol' cl' e k : Nat} {x : Int32} (y : Int32) (rm : Nat → Prop) (hq : q < e) (he : e ≤ n) (hk : 2 ≤ k) (hk9 : k ≤ 9) (hT : 32 < T q)
    (hK : K' (s * 96 + q) = nI (tk_k k)) (hK' : ∀ c, c < n → c ≠ q → (rm c → K' (s * 96 + c) = 1) ∧ (¬ rm c → K' (s * 96 + c) = K (s * 96 + c)))
    (hR' : ∀ c, c < n → (rm c → R' (s * 96 + c) = 1) ∧ (¬ rm c → R' (s * 96 + c) = R (s * 96 + c)))
    (hrm : ∀ c, c < n → rm c → T c = 32 ∨ T c = 10)
    (hN : ∀ c, c < n → c ≠ q → N' (s * 96 + c) = N (s * 96 + c))
    (hx : 4 ≤ k → N' (s * 96 + q) = x ∧ (k = 9 → 49 ≤ x ∧ x ≤ 51) ∧ (k ≠ 9 → ll_nm x))
    (h6 : k ≠ 6) (h7 : k ≠ 7) (h8 : k ≠ 8) (h9 : s ≠ 0 → k ≠ 9) (hoc : ∀ i, i < ol' → oc' i = oM' i) (hcc : ∀ i, i < cl' → cc' i = cM' i) :
    cp_I s n e ol' cl' (m + 1) (fu ps (m + 1) e) (fu tp m k) (fu st (m + 1) (st m)) T K' N' (upd E (s * 96 + q) (nI (s * 96 + e))) G oM' cM' oT R' (upd ty (s * 100 + m) (nI k)) (upd tA (s * 100 + m) (nI q)) (upd tB (s * 100 + m) (nI e)) (upd tN (s * 100 + m) x) (upd tM (s * 100 + m) y) oc' cc' oN oK := by
  obtain ⟨h1, h2, h3, h4, h5, g6, g7⟩ := h
  have hk1 : ¬ nI (tk_k k) = 1 := by
    have d : ∀ k, k ≤ 9 → 2 ≤ k → ¬ nI (tk_k k) = 1 := by decide
    exact d k hk9 hk
  refine ⟨tk_a1 h1 hq (by omega) hk9, tk_c2 h1 h2 rm hq he hk hT hK hK' hR' hrm hN hx hk1, tk_s1 h3 h6 h7 h8 y, ?_, hoc, hcc, fun z t ht => ?_⟩
  · rw [fu_s]
    refine cp_Ocg _ h4 (fun w hw => ?_) (fun i _ => ⟨rfl, rfl, rfl⟩)
    have := tk_sb h3 m m (Nat.le_refl _) (Nat.le_refl _) w hw
    have a := tk_lt h1 (t := w) (t' := m) (by omega) (Nat.le_refl _)
    rw [h1.2.1] at a
    exact ⟨fu_n (by omega), hN _ (by omega) (by omega)⟩
  · by_cases w : t = m
    · rw [w, fu_s]; exact h9 z
    · rw [fu_n w]; exact g7 z t (by omega)
/-- a tag that begins a section -/
theorem cp_beg (h : cp_I s n q ol cl m ps tp st T K N E G oM cM oT R ty tA tB tN tM oc cc oN oK) {e k : Nat} {x : Int32} (y : Int32) (rm : Nat → Prop) (hq : q < e) (he : e ≤ n) (hk : k = 6 ∨ k = 7) (hT : 32 < T q)
    (hK : K' (s * 96 + q) = nI k) (hK' : ∀ c, c < n → c ≠ q → (rm c → K' (s * 96 + c) = 1) ∧ (¬ rm c → K' (s * 96 + c) = K (s * 96 + c)))
    (hR' : ∀ c, c < n → (rm c → R' (s * 96 + c) = 1) ∧ (¬ rm c → R' (s * 96 + c) = R (s * 96 + c)))
    (hrm : ∀ c, c < n → rm c → T c = 32 ∨ T c = 10)
    (hN : ∀ c, c < n → c ≠ q → N' (s * 96 + c) = N (s * 96 + c))
    (hx : N' (s * 96 + q) = x) (hx2 : ll_nm x) (hl : (st m).length < 2) :
    cp_I s n e ol cl (m + 1) (fu ps (m + 1) e) (fu tp m k) (fu st (m + 1) (m :: st m)) T K' N' (upd E (s * 96 + q) (nI (s * 96 + e))) G oM cM (upd oT (st m).length (nI (s * 96 + q))) R' (upd ty (s * 100 + m) (nI k)) (upd tA (s * 100 + m) (nI q)) (upd tB (s * 100 + m) (nI e)) (upd tN (s * 100 + m) x) (upd tM (s * 100 + m) y) oc cc (upd oN (st m).length x) (upd oK (st m).length (nI m)) := by
  obtain ⟨h1, h2, h3, h4, h5, g6, g7⟩ := h
  have hkk : tk_k k = k := by rcases hk with z | z <;> rw [z] <;> rfl
  have hk1 : ¬ nI (tk_k k) = 1 := by rcases hk with z | z <;> rw [z] <;> decide
  refine ⟨tk_a1 h1 hq (by omega) (by omega), tk_c2 h1 h2 rm hq he (by omega) hT (by rw [hkk]; exact hK) hK' hR' hrm hN (fun _ => ⟨hx, fun z => by omega, fun _ => hx2⟩) hk1, tk_s2 h3 hk hl y, ?_, h5, g6, fun z t ht => ?_⟩
  · rw [fu_s]
    refine ⟨?_, ?_, ?_, ?_⟩
    · rw [pk_us, fu_n (by omega), h1.2.1]
    · rw [pk_us]
    · rw [pk_us, fu_n (by omega), h1.2.1, hx]
    · refine cp_Ocg _ h4 (fun w hw => ?_) (fun i hi => ⟨pk_un (by omega), pk_un (by omega), pk_un (by omega)⟩)
      have := tk_sb h3 m m (Nat.le_refl _) (Nat.le_refl _) w hw
      have a := tk_lt h1 (t := w) (t' := m) (by omega) (Nat.le_refl _)
      rw [h1.2.1] at a
      exact ⟨fu_n (by omega), hN _ (by omega) (by omega)⟩
  · by_cases w : t = m
    · rw [w, fu_s]; omega
    · rw [fu_n w]; exact g7 z t (by omega)
/-- a tag that ends the section hd -/
theorem cp_end (h : cp_I s n q ol cl m ps tp st T K N E G oM cM oT R ty tA tB tN tM oc cc oN oK) {e hd : Nat} {x : Int32} (y : Int32) (rm : Nat → Prop) (hq : q < e) (he : e ≤ n) (hT : 32 < T q)
    (hK : K' (s * 96 + q) = nI 8) (hK' : ∀ c, c < n → c ≠ q → (rm c → K' (s * 96 + c) = 1) ∧ (¬ rm c → K' (s * 96 + c) = K (s * 96 + c)))
    (hR' : ∀ c, c < n → (rm c → R' (s * 96 + c) = 1) ∧ (¬ rm c → R' (s * 96 + c) = R (s * 96 + c)))
    (hrm : ∀ c, c < n → rm c → T c = 32 ∨ T c = 10)
    (hN : ∀ c, c < n → c ≠ q → N' (s * 96 + c) = N (s * 96 + c))
    (hx : N' (s * 96 + q) = x) (hx2 : ll_nm x) (hh : hd < m) (hs : st m = hd :: st hd) :
    cp_I s n e ol cl (m + 1) (fu ps (m + 1) e) (fu tp m 8) (fu st (m + 1) (st hd)) T K' N' (upd E (s * 96 + q) (nI (s * 96 + e))) (upd G (s * 96 + ps hd) (nI (s * 96 + e))) oM cM oT R' (upd ty (s * 100 + m) (nI 8)) (upd tA (s * 100 + m) (nI q)) (upd tB (s * 100 + m) (nI e)) (upd tN (s * 100 + m) x) (upd (upd tM (s * 100 + hd) (nI m)) (s * 100 + m) y) oc cc oN oK := by
  obtain ⟨h1, h2, h3, h4, h5, g6, g7⟩ := h
  refine ⟨tk_a1 h1 hq (by omega) (by omega), tk_c2 h1 h2 rm hq he (by omega) hT hK hK' hR' hrm hN (fun _ => ⟨hx, fun z => by omega, fun _ => hx2⟩) (by decide), tk_s3 h1 h3 hh hs y, ?_, h5, g6, fun z t ht => ?_⟩
  · rw [fu_s]
    rw [hs] at h4
    refine cp_Ocg _ h4.2.2.2 (fun w hw => ?_) (fun i hi => ⟨rfl, rfl, rfl⟩)
    have := tk_sb h3 m hd (by omega) (by omega) w hw
    have a := tk_lt h1 (t := w) (t' := m) (by omega) (Nat.le_refl _)
    rw [h1.2.1] at a
    exact ⟨fu_n (by omega), hN _ (by omega) (by omega)⟩
  · by_cases w : t = m
    · rw [w, fu_s]; omega
    · rw [fu_n w]; exact g7 z t (by omega)
end TAG
/-- what removal of a line leaves: the tag at q .. e-1 -/
def rm_P (T : Nat → Int32) (n q e c : Nat) : Prop := (ll_sb T q q = 0 ∨ T (ll_sb T q q - 1) = 10) ∧ (ll_sp T (n - e) e = n ∨ T (ll_sp T (n - e) e) = 10) ∧ ((ll_sb T q q ≤ c ∧ c < q) ∨ (e ≤ c ∧ c ≤ ll_sp T (n - e) e ∧ c < n))
theorem rm_ch {T : Nat → Int32} {n q e c : Nat} (he : e ≤ n) (h : rm_P T n q e c) : T c = 32 ∨ T c = 10 := by
  obtain ⟨_, h2, h3⟩ := h
  rcases h3 with ⟨a, b⟩ | ⟨a, b, d⟩
  · exact Or.inl (ll_sb_a q q c (Nat.le_refl _) a b)
  · by_cases z : c = ll_sp T (n - e) e
    · rw [z]
      rcases h2 with y | y
      · omega
      · exact Or.inr y
    · exact Or.inl (ll_sp_a (n - e) e c a (by omega))
end LLS
end
section
section LLREL
/-- Y's parse of slot s over the text tx of length n ends well and its tokens match X's tables -/
def cp_L (s n : Nat) (tx K N E G : Nat → Int32) : Prop :=
  ∀ (g_ol g_cl g_newOl g_newCl g_tagName g_parseErr g_openCount g_nVals g_outLen g_outCap g_fn g_cn : Int32) (b_text b_len b_stat b_errPos b_removed b_tType b_tA b_tB b_tName b_tMatch b_tCount b_oc b_cc b_newO b_newC b_openName b_openTok b_vKind b_vNum b_vCnt b_vStr b_vItem b_vKey b_vVal b_out b_fv b_cKind b_cSlot b_cTok b_cVal b_cIdx b_dig : Nat → Int32), (∀ i, i < 96 → b_text (s * 96 + i) = tx (s * 96 + i)) → b_len s = nI n →
  ∃ (g_ol' g_cl' g_newOl' g_newCl' g_tagName' g_parseErr' g_openCount' : Int32) (b_removed' b_tType' b_tA' b_tB' b_tName' b_tMatch' b_tCount' b_oc' b_cc' b_newO' b_newC' b_openName' b_openTok' : Nat → Int32),
  (∀ post : Int32 → SY → Prop, post 0 (g_ol', g_cl', g_newOl', g_newCl', g_tagName', g_parseErr', g_openCount', g_nVals, g_outLen, g_outCap, g_fn, g_cn, b_text, b_len, b_stat, b_errPos, b_removed', b_tType', b_tA', b_tB', b_tName', b_tMatch', b_tCount', b_oc', b_cc', b_newO', b_newC', b_openName', b_openTok', b_vKind, b_vNum, b_vCnt, b_vStr, b_vItem, b_vKey, b_vVal, b_out, b_fv, b_cKind, b_cSlot, b_cTok, b_cVal, b_cIdx, b_dig) → wpY_parse post (g_ol, g_cl, g_newOl, g_newCl, g_tagName, g_parseErr, g_openCount, g_nVals, g_outLen, g_outCap, g_fn, g_cn, b_text, b_len, b_stat, b_errPos, b_removed, b_tType, b_tA, b_tB, b_tName, b_tMatch, b_tCount, b_oc, b_cc, b_newO, b_newC, b_openName, b_openTok, b_vKind, b_vNum, b_vCnt, b_vStr, b_vItem, b_vKey, b_vVal, b_out, b_fv, b_cKind, b_cSlot, b_cTok, b_cVal, b_cIdx, b_dig) (nI s)) ∧
  (∀ s', s' ≠ s → b_tCount' s' = b_tCount s') ∧
  (∀ s' c, s' ≠ s → c < 96 → b_removed' (s' * 96 + c) = b_removed (s' * 96 + c)) ∧
  (∀ s' j, s' ≠ s → j < 100 → b_tType' (s' * 100 + j) = b_tType (s' * 100 + j) ∧ b_tA' (s' * 100 + j) = b_tA (s' * 100 + j) ∧ b_tB' (s' * 100 + j) = b_tB (s' * 100 + j) ∧ b_tName' (s' * 100 + j) = b_tName (s' * 100 + j) ∧ b_tMatch' (s' * 100 + j) = b_tMatch (s' * 100 + j)) ∧
  ∃ (m : Nat) (ps tp : Nat → Nat) (st : Nat → List Nat), b_tCount' s = nI m ∧ tk_F s n (fun i => tx (s * 96 + i)) K N E G b_removed' b_tType' b_tA' b_tB' b_tName' b_tMatch' m ps tp st
theorem cp_cg {s n : Nat} {tx K N E G tx' K' N' E' G' : Nat → Int32} (hn : n ≤ 96) (h : cp_L s n tx K N E G)
    (e : ∀ c, c < 96 → tx' (s * 96 + c) = tx (s * 96 + c) ∧ K' (s * 96 + c) = K (s * 96 + c) ∧ N' (s * 96 + c) = N (s * 96 + c) ∧ E' (s * 96 + c) = E (s * 96 + c) ∧ G' (s * 96 + c) = G (s * 96 + c)) : cp_L s n tx' K' N' E' G' := by
  unfold cp_L at h ⊢
  intro g_ol g_cl g_newOl g_newCl g_tagName g_parseErr g_openCount g_nVals g_outLen g_outCap g_fn g_cn b_text b_len b_stat b_errPos b_removed b_tType b_tA b_tB b_tName b_tMatch b_tCount b_oc b_cc b_newO b_newC b_openName b_openTok b_vKind b_vNum b_vCnt b_vStr b_vItem b_vKey b_vVal b_out b_fv b_cKind b_cSlot b_cTok b_cVal b_cIdx b_dig h1 h2
  obtain ⟨a1, a2, a3, a4, a5, a6, a7, c1, c2, c3, c4, c5, c6, c7, c8, c9, c10, c11, c12, c13, hp, hc, hr, ht, m, ps, tp, st, hm, hF⟩ := h g_ol g_cl g_newOl g_newCl g_tagName g_parseErr g_openCount g_nVals g_outLen g_outCap g_fn g_cn b_text b_len b_stat b_errPos b_removed b_tType b_tA b_tB b_tName b_tMatch b_tCount b_oc b_cc b_newO b_newC b_openName b_openTok b_vKind b_vNum b_vCnt b_vStr b_vItem b_vKey b_vVal b_out b_fv b_cKind b_cSlot b_cTok b_cVal b_cIdx b_dig (fun i hi => (h1 i hi).trans (e i hi).1) h2
  exact ⟨a1, a2, a3, a4, a5, a6, a7, c1, c2, c3, c4, c5, c6, c7, c8, c9, c10, c11, c12, c13, hp, hc, hr, ht, m, ps, tp, st, hm, tk_Fcg hn hF (fun c hc => ⟨(e c hc).1, (e c hc).2.1, (e c hc).2.2.1, (e c hc).2.2.2.1, (e c hc).2.2.2.2, rfl⟩) (fun j hj => ⟨rfl, rfl, rfl, rfl, rfl⟩)⟩
/-- the texts, their lengths and what is compiled -/
def ir_T (ln : Nat → Nat) (tx tl ss K N E G : Nat → Int32) : Prop := (∀ s, s < 4 → ln s ≤ 96 ∧ tl s = nI (ln s)) ∧ (∀ j, 0 ≤ tx j ∧ tx j ≤ 126) ∧ (∀ s, s < 4 → ss s = 0 → cp_L s (ln s) tx K N E G)
def ir_R (ln : Nat → Nat) (nv oc cap : Nat) (kd ct : Nat → Nat) (u : SX) (v : SY) : Prop := match u with
  | (f_openMarkLength, f_closeMarkLength, f_openCount, f_compileFrom, f_compileTo, f_valueCount, f_outCap, f_outCount, f_frameCount, f_valueTextLength, f_renderAt, f_renderTo, f_returnAt, f_finished, f_overflowed, a_text, a_cellKind, a_cellName, a_tagEnd, a_sectionEnd, a_textLength, a_slotStatus, a_slotError, a_openMark, a_closeMark, a_openTags, a_valueKind, a_amount, a_parts, a_fieldValues, a_out, a_frameValue, a_frameList, a_frameNext, a_frameBody, a_valueText) => match v with
    | (g_ol, g_cl, g_newOl, g_newCl, g_tagName, g_parseErr, g_openCount, g_nVals, g_outLen, g_outCap, g_fn, g_cn, b_text, b_len, b_stat, b_errPos, b_removed, b_tType, b_tA, b_tB, b_tName, b_tMatch, b_tCount, b_oc, b_cc, b_newO, b_newC, b_openName, b_openTok, b_vKind, b_vNum, b_vCnt, b_vStr, b_vItem, b_vKey, b_vVal, b_out, b_fv, b_cKind, b_cSlot, b_cTok, b_cVal, b_cIdx, b_dig) => f_valueCount = nI nv ∧ f_outCount = nI oc ∧ f_outCap = nI cap ∧ g_nVals = nI nv ∧ g_outLen = nI oc ∧ g_outCap = nI cap ∧ a_text = b_text ∧ a_textLength = b_len ∧ a_slotStatus = b_stat ∧ a_slotError = b_errPos ∧ a_out = b_out ∧
  16 ≤ cap ∧ cap ≤ 256 ∧ oc ≤ cap ∧ ir_T ln a_text a_textLength a_slotStatus a_cellKind a_cellName a_tagEnd a_sectionEnd ∧
  vl_R nv kd ct a_valueKind a_amount a_parts a_fieldValues b_vKind b_vNum b_vCnt b_vStr b_vItem b_vKey b_vVal
def i_Rel (k : Nat) (u : SX) (v : SY) : Prop := ∃ (ln : Nat → Nat) (nv oc cap : Nat) (kd ct : Nat → Nat), ir_R ln nv oc cap kd ct u v
theorem ir_el {P : SX → SY → Prop} {k : Nat} {u : SX} {v : SY} (I : i_Rel k u v) (H : ∀ (f_openMarkLength f_closeMarkLength f_openCount f_compileFrom f_compileTo : Int32) (f_frameCount f_valueTextLength f_renderAt f_renderTo f_returnAt f_finished f_overflowed : Int32) (a_text a_cellKind a_cellName a_tagEnd a_sectionEnd a_textLength a_slotStatus a_slotError a_openMark a_closeMark a_openTags a_valueKind a_amount a_parts a_fieldValues a_out a_frameValue a_frameList a_frameNext a_frameBody a_valueText : Nat → Int32) (g_ol g_cl g_newOl g_newCl g_tagName g_parseErr g_openCount : Int32) (g_fn g_cn : Int32) (b_removed : Nat → Int32) (b_tType b_tA b_tB b_tName b_tMatch b_tCount b_oc b_cc b_newO b_newC b_openName b_openTok b_vKind b_vNum b_vCnt b_vStr b_vItem b_vKey b_vVal : Nat → Int32) (b_fv b_cKind b_cSlot b_cTok b_cVal b_cIdx b_dig : Nat → Int32) (ln : Nat → Nat) (nv oc cap : Nat) (kd ct : Nat → Nat) (hc1 : 16 ≤ cap) (hc2 : cap ≤ 256) (hoc : oc ≤ cap) (hT : ir_T ln a_text a_textLength a_slotStatus a_cellKind a_cellName a_tagEnd a_sectionEnd) (hV : vl_R nv kd ct a_valueKind a_amount a_parts a_fieldValues b_vKind b_vNum b_vCnt b_vStr b_vItem b_vKey b_vVal), P (f_openMarkLength, f_closeMarkLength, f_openCount, f_compileFrom, f_compileTo, nI nv, nI cap, nI oc, f_frameCount, f_valueTextLength, f_renderAt, f_renderTo, f_returnAt, f_finished, f_overflowed, a_text, a_cellKind, a_cellName, a_tagEnd, a_sectionEnd, a_textLength, a_slotStatus, a_slotError, a_openMark, a_closeMark, a_openTags, a_valueKind, a_amount, a_parts, a_fieldValues, a_out, a_frameValue, a_frameList, a_frameNext, a_frameBody, a_valueText) (g_ol, g_cl, g_newOl, g_newCl, g_tagName, g_parseErr, g_openCount, nI nv, nI oc, nI cap, g_fn, g_cn, a_text, a_textLength, a_slotStatus, a_slotError, b_removed, b_tType, b_tA, b_tB, b_tName, b_tMatch, b_tCount, b_oc, b_cc, b_newO, b_newC, b_openName, b_openTok, b_vKind, b_vNum, b_vCnt, b_vStr, b_vItem, b_vKey, b_vVal, a_out, b_fv, b_cKind, b_cSlot, b_cTok, b_cVal, b_cIdx, b_dig)) : P u v := by
  obtain ⟨f_openMarkLength, f_closeMarkLength, f_openCount, f_compileFrom, f_compileTo, f_valueCount, f_outCap, f_outCount, f_frameCount, f_valueTextLength, f_renderAt, f_renderTo, f_returnAt, f_finished, f_overflowed, a_text, a_cellKind, a_cellName, a_tagEnd, a_sectionEnd, a_textLength, a_slotStatus, a_slotError, a_openMark, a_closeMark, a_openTags, a_valueKind, a_amount, a_parts, a_fieldValues, a_out, a_frameValue, a_frameList, a_frameNext, a_frameBody, a_valueText⟩ := u
  obtain ⟨g_ol, g_cl, g_newOl, g_newCl, g_tagName, g_parseErr, g_openCount, g_nVals, g_outLen, g_outCap, g_fn, g_cn, b_text, b_len, b_stat, b_errPos, b_removed, b_tType, b_tA, b_tB, b_tName, b_tMatch, b_tCount, b_oc, b_cc, b_newO, b_newC, b_openName, b_openTok, b_vKind, b_vNum, b_vCnt, b_vStr, b_vItem, b_vKey, b_vVal, b_out, b_fv, b_cKind, b_cSlot, b_cTok, b_cVal, b_cIdx, b_dig⟩ := v
  obtain ⟨ln, nv, oc, cap, kd, ct, e1, e2, e3, e4, e5, e6, e7, e8, e9, e10, e11, hc1, hc2, hoc, hT, hV⟩ := I
  subst e1 e2 e3 e4 e5 e6 e7 e8 e9 e10 e11
  exact H f_openMarkLength f_closeMarkLength f_openCount f_compileFrom f_compileTo f_frameCount f_valueTextLength f_renderAt f_renderTo f_returnAt f_finished f_overflowed a_text a_cellKind a_cellName a_tagEnd a_sectionEnd a_textLength a_slotStatus a_slotError a_openMark a_closeMark a_openTags a_valueKind a_amount a_parts a_fieldValues a_out a_frameValue a_frameList a_frameNext a_frameBody a_valueText g_ol g_cl g_newOl g_newCl g_tagName g_parseErr g_openCount g_fn g_cn b_removed b_tType b_tA b_tB b_tName b_tMatch b_tCount b_oc b_cc b_newO b_newC b_openName b_openTok b_vKind b_vNum b_vCnt b_vStr b_vItem b_vKey b_vVal b_fv b_cKind b_cSlot b_cTok b_cVal b_cIdx b_dig ln nv oc cap kd ct hc1 hc2 hoc hT hV
end LLREL
section LLMK
variable {f_openMarkLength f_closeMarkLength f_openCount f_compileFrom f_compileTo f_valueCount f_outCap f_outCount f_frameCount f_valueTextLength f_renderAt f_renderTo f_returnAt f_finished f_overflowed : Int32} {a_text a_cellKind a_cellName a_tagEnd a_sectionEnd a_textLength a_slotStatus a_slotError a_openMark a_closeMark a_openTags a_valueKind a_amount a_parts a_fieldValues a_out a_frameValue a_frameList a_frameNext a_frameBody a_valueText : Nat → Int32} {g_ol g_cl g_newOl g_newCl g_tagName g_parseErr g_openCount g_nVals g_outLen g_outCap g_fn g_cn : Int32} {b_text b_len b_stat b_errPos b_removed b_tType b_tA b_tB b_tName b_tMatch b_tCount b_oc b_cc b_newO b_newC b_openName b_openTok b_vKind b_vNum b_vCnt b_vStr b_vItem b_vKey b_vVal b_out b_fv b_cKind b_cSlot b_cTok b_cVal b_cIdx b_dig : Nat → Int32} {ln : Nat → Nat} {nv oc cap : Nat} {kd ct : Nat → Nat} {k : Nat}
theorem ir_mk (hc1 : 16 ≤ cap) (hc2 : cap ≤ 256) (hoc : oc ≤ cap) (hT : ir_T ln a_text a_textLength a_slotStatus a_cellKind a_cellName a_tagEnd a_sectionEnd) (hV : vl_R nv kd ct a_valueKind a_amount a_parts a_fieldValues b_vKind b_vNum b_vCnt b_vStr b_vItem b_vKey b_vVal) : i_Rel k (f_openMarkLength, f_closeMarkLength, f_openCount, f_compileFrom, f_compileTo, nI nv, nI cap, nI oc, f_frameCount, f_valueTextLength, f_renderAt, f_renderTo, f_returnAt, f_finished, f_overflowed, a_text, a_cellKind, a_cellName, a_tagEnd, a_sectionEnd, a_textLength, a_slotStatus, a_slotError, a_openMark, a_closeMark, a_openTags, a_valueKind, a_amount, a_parts, a_fieldValues, a_out, a_frameValue, a_frameList, a_frameNext, a_frameBody, a_valueText) (g_ol, g_cl, g_newOl, g_newCl, g_tagName, g_parseErr, g_openCount, nI nv, nI oc, nI cap, g_fn, g_cn, a_text, a_textLength, a_slotStatus, a_slotError, b_removed, b_tType, b_tA, b_tB, b_tName, b_tMatch, b_tCount, b_oc, b_cc, b_newO, b_newC, b_openName, b_openTok, b_vKind, b_vNum, b_vCnt, b_vStr, b_vItem, b_vKey, b_vVal, a_out, b_fv, b_cKind, b_cSlot, b_cTok, b_cVal, b_cIdx, b_dig) :=
  ⟨ln, nv, oc, cap, kd, ct, rfl, rfl, rfl, rfl, rfl, rfl, rfl, rfl, rfl, rfl, rfl, hc1, hc2, hoc, hT, hV⟩
end LLMK
theorem i_up {k : Nat} {u : SX} {v : SY} (h : i_Rel k u v) : i_Rel (k + 4) u v := h
end
section
section LLX
variable {f_openMarkLength f_closeMarkLength f_openCount f_compileFrom f_compileTo f_valueCount f_outCap f_outCount f_frameCount f_valueTextLength f_renderAt f_renderTo f_returnAt f_finished f_overflowed : Int32} {a_text a_cellKind a_cellName a_tagEnd a_sectionEnd a_textLength a_slotStatus a_slotError a_openMark a_closeMark a_openTags a_valueKind a_amount a_parts a_fieldValues a_out a_frameValue a_frameList a_frameNext a_frameBody a_valueText : Nat → Int32}
theorem xl_slot {post : Int32 → Prop} {s : Nat} (hs : s < 4) (h : post 1) : wpX_isSlot post (f_openMarkLength, f_closeMarkLength, f_openCount, f_compileFrom, f_compileTo, f_valueCount, f_outCap, f_outCount, f_frameCount, f_valueTextLength, f_renderAt, f_renderTo, f_returnAt, f_finished, f_overflowed, a_text, a_cellKind, a_cellName, a_tagEnd, a_sectionEnd, a_textLength, a_slotStatus, a_slotError, a_openMark, a_closeMark, a_openTags, a_valueKind, a_amount, a_parts, a_fieldValues, a_out, a_frameValue, a_frameList, a_frameNext, a_frameBody, a_valueText) (nI s) :=
  br_f (nI_pos (by omega)) (br_f (nI_ge (b := 4) hs (by decide)) h)
theorem xl_nslot {post : Int32 → Prop} {x : Int32} (hx : x < 0 ∨ nI 4 ≤ x) (h : post 0) : wpX_isSlot post (f_openMarkLength, f_closeMarkLength, f_openCount, f_compileFrom, f_compileTo, f_valueCount, f_outCap, f_outCount, f_frameCount, f_valueTextLength, f_renderAt, f_renderTo, f_returnAt, f_finished, f_overflowed, a_text, a_cellKind, a_cellName, a_tagEnd, a_sectionEnd, a_textLength, a_slotStatus, a_slotError, a_openMark, a_closeMark, a_openTags, a_valueKind, a_amount, a_parts, a_fieldValues, a_out, a_frameValue, a_frameList, a_frameNext, a_frameBody, a_valueText) x := by
  rcases hx with h1 | h1
  · exact br_t h1 h
  · exact br_c (fun _ => h) (fun _ => br_t h1 h)
theorem xl_tend {post : Int32 → Prop} {s n : Nat} (hs : s < 4) (hl : a_textLength s = nI n) (h : post (nI (s * 96 + n))) : wpX_textEnd post (f_openMarkLength, f_closeMarkLength, f_openCount, f_compileFrom, f_compileTo, f_valueCount, f_outCap, f_outCount, f_frameCount, f_valueTextLength, f_renderAt, f_renderTo, f_returnAt, f_finished, f_overflowed, a_text, a_cellKind, a_cellName, a_tagEnd, a_sectionEnd, a_textLength, a_slotStatus, a_slotError, a_openMark, a_closeMark, a_openTags, a_valueKind, a_amount, a_parts, a_fieldValues, a_out, a_frameValue, a_frameList, a_frameNext, a_frameBody, a_valueText) (nI s) := by
  refine ⟨vp_in_nI hs (by omega), ?_⟩
  rw [nI_clamp (by omega), hl, la_m96, nI_add]
  exact h
theorem la_dif {s l f : Nat} (h : f ≤ l) : nI (s + l) - nI (s + f) = nI (l - f) := by
  rw [pk_sub (by omega)]
  exact congrArg nI (by omega)
section TXT
variable {s : Nat} {T : Nat → Int32}
theorem xl_sp {post : Int32 → Prop} {e : Nat} (hs : s < 4) (hT : ∀ i, i < 96 → a_text (s * 96 + i) = T i) (he : e ≤ 96) : ∀ d i, i + d = e → post (nI (s * 96 + ll_sp T d i)) → wX_skipSpaces_2 post (nI (s * 96 + e)) f_openMarkLength f_closeMarkLength f_openCount f_compileFrom f_compileTo f_valueCount f_outCap f_outCount f_frameCount f_valueTextLength f_renderAt f_renderTo f_returnAt f_finished f_overflowed a_text a_cellKind a_cellName a_tagEnd a_sectionEnd a_textLength a_slotStatus a_slotError a_openMark a_closeMark a_openTags a_valueKind a_amount a_parts a_fieldValues a_out a_frameValue a_frameList a_frameNext a_frameBody a_valueText (d + 1) (nI (s * 96 + i)) := by
  intro d
  induction d with
  | zero => intro i hi h; exact br_t (nI_le (by omega) (by omega)) h
  | succ d ih =>
    intro i hi h
    refine br_f (nI_ge (by omega) (by omega)) ⟨vp_in_nI (by omega) (by omega), ?_⟩
    rw [nI_clamp (by omega), hT i (by omega)]
    rw [ll_sp_u] at h
    by_cases z : T i = 32
    · rw [if_pos z] at h
      exact br_t z (nm_r (nI_1 _) (ih (i + 1) (by omega) h))
    · rw [if_neg z] at h
      exact br_f z h
theorem xl_skip {post : Int32 → Prop} {i e : Nat} (hs : s < 4) (hT : ∀ i, i < 96 → a_text (s * 96 + i) = T i) (he : e ≤ 96) (hi : i ≤ e) (h : post (nI (s * 96 + ll_sp T (e - i) i))) : wpX_skipSpaces post (f_openMarkLength, f_closeMarkLength, f_openCount, f_compileFrom, f_compileTo, f_valueCount, f_outCap, f_outCount, f_frameCount, f_valueTextLength, f_renderAt, f_renderTo, f_returnAt, f_finished, f_overflowed, a_text, a_cellKind, a_cellName, a_tagEnd, a_sectionEnd, a_textLength, a_slotStatus, a_slotError, a_openMark, a_closeMark, a_openTags, a_valueKind, a_amount, a_parts, a_fieldValues, a_out, a_frameValue, a_frameList, a_frameNext, a_frameBody, a_valueText) (nI (s * 96 + i)) (nI (s * 96 + e)) := ⟨_, xl_sp hs hT he (e - i) i (by omega) h⟩
theorem xl_sb {post : Int32 → Prop} {lo : Nat} (hs : s < 4) (hT : ∀ i, i < 96 → a_text (s * 96 + i) = T i) : ∀ d j, lo + d = j → j ≤ 96 → post (nI (s * 96 + ll_sb T d j)) → wX_skipSpacesBack_2 post (nI (s * 96 + lo)) f_openMarkLength f_closeMarkLength f_openCount f_compileFrom f_compileTo f_valueCount f_outCap f_outCount f_frameCount f_valueTextLength f_renderAt f_renderTo f_returnAt f_finished f_overflowed a_text a_cellKind a_cellName a_tagEnd a_sectionEnd a_textLength a_slotStatus a_slotError a_openMark a_closeMark a_openTags a_valueKind a_amount a_parts a_fieldValues a_out a_frameValue a_frameList a_frameNext a_frameBody a_valueText (d + 1) (nI (s * 96 + j)) := by
  intro d
  induction d with
  | zero => intro j hi hj h; exact br_t (nI_le (by omega) (by omega)) h
  | succ d ih =>
    intro j hi hj h
    have e1 : nI (s * 96 + j) - 1 = nI (s * 96 + (j - 1)) := by rw [la_s (by omega)]; exact congrArg nI (by omega)
    have e2 : nI (s * 96 + j) + (-1) = nI (s * 96 + (j - 1)) := by rw [la_m (by omega)]; exact congrArg nI (by omega)
    refine br_f (nI_ge (by omega) (by omega)) ?_
    rw [e1, nI_clamp (by omega), hT (j - 1) (by omega)]
    refine ⟨vp_in_nI (by omega) (by omega), ?_⟩
    rw [ll_sb_u] at h
    by_cases z : T (j - 1) = 32
    · rw [if_pos z] at h
      exact br_t z (nm_r e2 (ih (j - 1) (by omega) (by omega) h))
    · rw [if_neg z] at h
      exact br_f z h
theorem xl_skipb {post : Int32 → Prop} {lo j : Nat} (hs : s < 4) (hT : ∀ i, i < 96 → a_text (s * 96 + i) = T i) (hj : j ≤ 96) (hi : lo ≤ j) (h : post (nI (s * 96 + ll_sb T (j - lo) j))) : wpX_skipSpacesBack post (f_openMarkLength, f_closeMarkLength, f_openCount, f_compileFrom, f_compileTo, f_valueCount, f_outCap, f_outCount, f_frameCount, f_valueTextLength, f_renderAt, f_renderTo, f_returnAt, f_finished, f_overflowed, a_text, a_cellKind, a_cellName, a_tagEnd, a_sectionEnd, a_textLength, a_slotStatus, a_slotError, a_openMark, a_closeMark, a_openTags, a_valueKind, a_amount, a_parts, a_fieldValues, a_out, a_frameValue, a_frameList, a_frameNext, a_frameBody, a_valueText) (nI (s * 96 + lo)) (nI (s * 96 + j)) := ⟨_, xl_sb hs hT (j - lo) j (by omega) hj h⟩
theorem xl_sm {post : Int32 → Prop} {e : Nat} (hs : s < 4) (hT : ∀ i, i < 96 → a_text (s * 96 + i) = T i) (he : e ≤ 96) : ∀ d i, i + d = e → post (nI (s * 96 + ll_sm T d i)) → wX_skipMarkChars_2 post (nI (s * 96 + e)) f_openMarkLength f_closeMarkLength f_openCount f_compileFrom f_compileTo f_valueCount f_outCap f_outCount f_frameCount f_valueTextLength f_renderAt f_renderTo f_returnAt f_finished f_overflowed a_text a_cellKind a_cellName a_tagEnd a_sectionEnd a_textLength a_slotStatus a_slotError a_openMark a_closeMark a_openTags a_valueKind a_amount a_parts a_fieldValues a_out a_frameValue a_frameList a_frameNext a_frameBody a_valueText (d + 1) (nI (s * 96 + i)) := by
  intro d
  induction d with
  | zero => intro i hi h; exact br_t (nI_le (by omega) (by omega)) h
  | succ d ih =>
    intro i hi h
    refine br_f (nI_ge (by omega) (by omega)) ⟨vp_in_nI (by omega) (by omega), ?_⟩
    rw [nI_clamp (by omega), hT i (by omega)]
    rw [ll_sm_u] at h
    by_cases z : T i ≤ 32
    · rw [if_neg (fun y => absurd z (Int32.not_le.mpr y.1))] at h
      exact br_t z h
    · refine br_f z ⟨vp_in_nI (by omega) (by omega), ?_⟩
      by_cases z2 : T i = 61
      · rw [if_neg (fun y => y.2 z2)] at h
        exact br_t z2 h
      · rw [if_pos ⟨Int32.not_le.mp z, z2⟩] at h
        exact br_f z2 (nm_r (nI_1 _) (ih (i + 1) (by omega) h))
theorem xl_skipm {post : Int32 → Prop} {i e : Nat} (hs : s < 4) (hT : ∀ i, i < 96 → a_text (s * 96 + i) = T i) (he : e ≤ 96) (hi : i ≤ e) (h : post (nI (s * 96 + ll_sm T (e - i) i))) : wpX_skipMarkChars post (f_openMarkLength, f_closeMarkLength, f_openCount, f_compileFrom, f_compileTo, f_valueCount, f_outCap, f_outCount, f_frameCount, f_valueTextLength, f_renderAt, f_renderTo, f_returnAt, f_finished, f_overflowed, a_text, a_cellKind, a_cellName, a_tagEnd, a_sectionEnd, a_textLength, a_slotStatus, a_slotError, a_openMark, a_closeMark, a_openTags, a_valueKind, a_amount, a_parts, a_fieldValues, a_out, a_frameValue, a_frameList, a_frameNext, a_frameBody, a_valueText) (nI (s * 96 + i)) (nI (s * 96 + e)) := ⟨_, xl_sm hs hT he (e - i) i (by omega) h⟩
theorem xl_only {post : Int32 → Prop} {lo hi : Nat} (hs : s < 4) (hT : ∀ i, i < 96 → a_text (s * 96 + i) = T i) (hh : hi ≤ 96) (hl : lo ≤ hi) (h : post (ll_on T lo hi)) : wpX_onlyChar post (f_openMarkLength, f_closeMarkLength, f_openCount, f_compileFrom, f_compileTo, f_valueCount, f_outCap, f_outCount, f_frameCount, f_valueTextLength, f_renderAt, f_renderTo, f_returnAt, f_finished, f_overflowed, a_text, a_cellKind, a_cellName, a_tagEnd, a_sectionEnd, a_textLength, a_slotStatus, a_slotError, a_openMark, a_closeMark, a_openTags, a_valueKind, a_amount, a_parts, a_fieldValues, a_out, a_frameValue, a_frameList, a_frameNext, a_frameBody, a_valueText) (nI (s * 96 + lo)) (nI (s * 96 + hi)) := by
  have b1 := ll_of_b (T := T) hl
  have b2 := ll_ol_b (T := T) hl
  refine xl_skip hs hT hh hl (xl_skipb hs hT hh b1.2 ?_)
  show ((nI (s * 96 + ll_ol T lo hi) - nI (s * 96 + ll_of T lo hi) = 1 → vp_in (nI (s * 96 + ll_of T lo hi)) 384 ∧ post (a_text (nI (s * 96 + ll_of T lo hi)).toNatClampNeg)) ∧ (¬ nI (s * 96 + ll_ol T lo hi) - nI (s * 96 + ll_of T lo hi) = 1 → post (-1)))
  rw [la_dif b2.1]
  unfold ll_on at h
  refine pk_eq (ll_ol T lo hi - ll_of T lo hi) 1 (fun z => ⟨vp_in_nI (by omega) (by omega), ?_⟩) (fun z => ?_)
  · rw [if_pos (by omega)] at h
    rw [nI_clamp (by omega), hT _ (by omega)]
    exact h
  · rw [if_neg (by omega)] at h
    exact h
theorem xl_oc_openMark {post : Int32 → Prop} {l x : Nat} (hs : s < 4) (hT : ∀ i, i < 96 → a_text (s * 96 + i) = T i) (hl : l ≤ 3) (hx : x + l ≤ 96) : ∀ d i, i + d = l → (ll_oc T a_openMark x d i = true → post 1) → (ll_oc T a_openMark x d i = false → post 0) → wX_occursAt__openMark_3 post (nI l) (nI (s * 96 + x)) f_openMarkLength f_closeMarkLength f_openCount f_compileFrom f_compileTo f_valueCount f_outCap f_outCount f_frameCount f_valueTextLength f_renderAt f_renderTo f_returnAt f_finished f_overflowed a_text a_cellKind a_cellName a_tagEnd a_sectionEnd a_textLength a_slotStatus a_slotError a_openMark a_closeMark a_openTags a_valueKind a_amount a_parts a_fieldValues a_out a_frameValue a_frameList a_frameNext a_frameBody a_valueText (d + 1) (nI i) := by
  intro d
  induction d with
  | zero => intro i hi h1 h0; exact br_t (nI_le (by omega) (by omega)) (h1 rfl)
  | succ d ih =>
    intro i hi h1 h0
    refine br_f (nI_ge (by omega) (by omega)) ?_
    rw [nI_add, nI_clamp (by omega), nI_clamp (by omega), show s * 96 + x + i = s * 96 + (x + i) from by omega, hT (x + i) (by omega)]
    refine ⟨vp_in_nI (by omega) (by omega), vp_in_nI (by omega) (by omega), ?_⟩
    rw [ll_oc_s] at h1 h0
    by_cases z : T (x + i) = a_openMark i
    · rw [if_pos z] at h1 h0
      exact br_t z (nm_r (nI_1 _) (ih (i + 1) (by omega) h1 h0))
    · rw [if_neg z] at h0
      exact br_f z (h0 rfl)
theorem xl_fd_openMark {post : Int32 → Prop} {l n : Nat} (hs : s < 4) (hT : ∀ i, i < 96 → a_text (s * 96 + i) = T i) (hl : l ≤ 3) (hn : n ≤ 96) : ∀ d x, x + d = n + 1 → post (ll_oI (s * 96) (ll_fd T a_openMark l n d x)) → wX_findMark__openMark_3 post (nI l) f_openMarkLength f_closeMarkLength f_openCount f_compileFrom (nI (s * 96 + n)) f_valueCount f_outCap f_outCount f_frameCount f_valueTextLength f_renderAt f_renderTo f_returnAt f_finished f_overflowed a_text a_cellKind a_cellName a_tagEnd a_sectionEnd a_textLength a_slotStatus a_slotError a_openMark a_closeMark a_openTags a_valueKind a_amount a_parts a_fieldValues a_out a_frameValue a_frameList a_frameNext a_frameBody a_valueText (d + 1) (nI (s * 96 + x)) := by
  intro d
  induction d with
  | zero =>
    intro x hx h
    refine br_t ?_ h
    rw [nI_add]
    exact nI_lt (by omega) (by omega)
  | succ d ih =>
    intro x hx h
    rw [ll_fd_u] at h
    by_cases z : x + l ≤ n
    · rw [if_pos z] at h
      refine br_f (by rw [nI_add]; exact nI_nlt (by omega) (by omega)) ⟨_, xl_oc_openMark hs hT hl (by omega) l 0 (by omega) (fun y => ?_) (fun y => ?_)⟩
      · rw [if_pos y] at h
        exact br_f (by decide) h
      · rw [if_neg (by rw [y]; decide)] at h
        exact br_t rfl (nm_r (nI_1 _) (ih (x + 1) (by omega) h))
    · rw [if_neg z] at h
      refine br_t ?_ h
      rw [nI_add]
      exact nI_lt (by omega) (by omega)
theorem xl_find_openMark {post : Int32 → Prop} {l n x : Nat} (hs : s < 4) (hT : ∀ i, i < 96 → a_text (s * 96 + i) = T i) (hl : l ≤ 3) (hn : n ≤ 96) (hx : x ≤ n) (h : post (ll_oI (s * 96) (ll_fd T a_openMark l n (n + 1 - x) x))) : wpX_findMark__openMark post (f_openMarkLength, f_closeMarkLength, f_openCount, f_compileFrom, nI (s * 96 + n), f_valueCount, f_outCap, f_outCount, f_frameCount, f_valueTextLength, f_renderAt, f_renderTo, f_returnAt, f_finished, f_overflowed, a_text, a_cellKind, a_cellName, a_tagEnd, a_sectionEnd, a_textLength, a_slotStatus, a_slotError, a_openMark, a_closeMark, a_openTags, a_valueKind, a_amount, a_parts, a_fieldValues, a_out, a_frameValue, a_frameList, a_frameNext, a_frameBody, a_valueText) (nI l) (nI (s * 96 + x)) := ⟨_, xl_fd_openMark hs hT hl hn (n + 1 - x) x (by omega) h⟩
theorem xl_cm_openMark {post : SX → Prop} {l x : Nat} (hs : s < 4) (hT : ∀ i, i < 96 → a_text (s * 96 + i) = T i) (hl : l ≤ 3) (hx : x + l ≤ 96) : ∀ d i, i + d = l → post (f_openMarkLength, f_closeMarkLength, f_openCount, f_compileFrom, f_compileTo, f_valueCount, f_outCap, f_outCount, f_frameCount, f_valueTextLength, f_renderAt, f_renderTo, f_returnAt, f_finished, f_overflowed, a_text, a_cellKind, a_cellName, a_tagEnd, a_sectionEnd, a_textLength, a_slotStatus, a_slotError, cy_f a_openMark (fun j => T (x + j)) l, a_closeMark, a_openTags, a_valueKind, a_amount, a_parts, a_fieldValues, a_out, a_frameValue, a_frameList, a_frameNext, a_frameBody, a_valueText) → wX_copyMark__openMark_3 post (nI l) (nI (s * 96 + x)) f_openMarkLength f_closeMarkLength f_openCount f_compileFrom f_compileTo f_valueCount f_outCap f_outCount f_frameCount f_valueTextLength f_renderAt f_renderTo f_returnAt f_finished f_overflowed (d + 1) (nI i) a_text a_cellKind a_cellName a_tagEnd a_sectionEnd a_textLength a_slotStatus a_slotError (cy_f a_openMark (fun j => T (x + j)) i) a_closeMark a_openTags a_valueKind a_amount a_parts a_fieldValues a_out a_frameValue a_frameList a_frameNext a_frameBody a_valueText := by
  intro d
  induction d with
  | zero =>
    intro i hi h
    have e : i = l := by omega
    subst e
    exact br_t (nI_le (by omega) (by omega)) h
  | succ d ih =>
    intro i hi h
    refine br_f (nI_ge (by omega) (by omega)) ?_
    rw [nI_add, nI_clamp (by omega), nI_clamp (by omega), show s * 96 + x + i = s * 96 + (x + i) from by omega, hT (x + i) (by omega)]
    exact ⟨vp_in_nI (by omega) (by omega), vp_in_nI (by omega) (by omega), nm_r (cy_s (g := fun j => T (x + j))) (nm_r (nI_1 _) (ih (i + 1) (by omega) h))⟩
theorem xl_copy_openMark {post : SX → Prop} {l x : Nat} (hs : s < 4) (hT : ∀ i, i < 96 → a_text (s * 96 + i) = T i) (hl : l ≤ 3) (hx : x + l ≤ 96) (h : post (f_openMarkLength, f_closeMarkLength, f_openCount, f_compileFrom, f_compileTo, f_valueCount, f_outCap, f_outCount, f_frameCount, f_valueTextLength, f_renderAt, f_renderTo, f_returnAt, f_finished, f_overflowed, a_text, a_cellKind, a_cellName, a_tagEnd, a_sectionEnd, a_textLength, a_slotStatus, a_slotError, cy_f a_openMark (fun j => T (x + j)) l, a_closeMark, a_openTags, a_valueKind, a_amount, a_parts, a_fieldValues, a_out, a_frameValue, a_frameList, a_frameNext, a_frameBody, a_valueText)) : wpX_copyMark__openMark post (f_openMarkLength, f_closeMarkLength, f_openCount, f_compileFrom, f_compileTo, f_valueCount, f_outCap, f_outCount, f_frameCount, f_valueTextLength, f_renderAt, f_renderTo, f_returnAt, f_finished, f_overflowed, a_text, a_cellKind, a_cellName, a_tagEnd, a_sectionEnd, a_textLength, a_slotStatus, a_slotError, a_openMark, a_closeMark, a_openTags, a_valueKind, a_amount, a_parts, a_fieldValues, a_out, a_frameValue, a_frameList, a_frameNext, a_frameBody, a_valueText) (nI l) (nI (s * 96 + x)) := by
  have := xl_cm_openMark (post := post) hs hT hl hx l 0 (by omega) h
  rw [cy_0] at this
  exact ⟨_, this⟩
theorem xl_oc_closeMark {post : Int32 → Prop} {l x : Nat} (hs : s < 4) (hT : ∀ i, i < 96 → a_text (s * 96 + i) = T i) (hl : l ≤ 3) (hx : x + l ≤ 96) : ∀ d i, i + d = l → (ll_oc T a_closeMark x d i = true → post 1) → (ll_oc T a_closeMark x d i = false → post 0) → wX_occursAt__closeMark_3 post (nI l) (nI (s * 96 + x)) f_openMarkLength f_closeMarkLength f_openCount f_compileFrom f_compileTo f_valueCount f_outCap f_outCount f_frameCount f_valueTextLength f_renderAt f_renderTo f_returnAt f_finished f_overflowed a_text a_cellKind a_cellName a_tagEnd a_sectionEnd a_textLength a_slotStatus a_slotError a_openMark a_closeMark a_openTags a_valueKind a_amount a_parts a_fieldValues a_out a_frameValue a_frameList a_frameNext a_frameBody a_valueText (d + 1) (nI i) := by
  intro d
  induction d with
  | zero => intro i hi h1 h0; exact br_t (nI_le (by omega) (by omega)) (h1 rfl)
  | succ d ih =>
    intro i hi h1 h0
    refine br_f (nI_ge (by omega) (by omega)) ?_
    rw [nI_add, nI_clamp (by omega), nI_clamp (by omega), show s * 96 + x + i = s * 96 + (x + i) from by omega, hT (x + i) (by omega)]
    refine ⟨vp_in_nI (by omega) (by omega), vp_in_nI (by omega) (by omega), ?_⟩
    rw [ll_oc_s] at h1 h0
    by_cases z : T (x + i) = a_closeMark i
    · rw [if_pos z] at h1 h0
      exact br_t z (nm_r (nI_1 _) (ih (i + 1) (by omega) h1 h0))
    · rw [if_neg z] at h0
      exact br_f z (h0 rfl)
theorem xl_fd_closeMark {post : Int32 → Prop} {l n : Nat} (hs : s < 4) (hT : ∀ i, i < 96 → a_text (s * 96 + i) = T i) (hl : l ≤ 3) (hn : n ≤ 96) : ∀ d x, x + d = n + 1 → post (ll_oI (s * 96) (ll_fd T a_closeMark l n d x)) → wX_findMark__closeMark_3 post (nI l) f_openMarkLength f_closeMarkLength f_openCount f_compileFrom (nI (s * 96 + n)) f_valueCount f_outCap f_outCount f_frameCount f_valueTextLength f_renderAt f_renderTo f_returnAt f_finished f_overflowed a_text a_cellKind a_cellName a_tagEnd a_sectionEnd a_textLength a_slotStatus a_slotError a_openMark a_closeMark a_openTags a_valueKind a_amount a_parts a_fieldValues a_out a_frameValue a_frameList a_frameNext a_frameBody a_valueText (d + 1) (nI (s * 96 + x)) := by
  intro d
  induction d with
  | zero =>
    intro x hx h
    refine br_t ?_ h
    rw [nI_add]
    exact nI_lt (by omega) (by omega)
  | succ d ih =>
    intro x hx h
    rw [ll_fd_u] at h
    by_cases z : x + l ≤ n
    · rw [if_pos z] at h
      refine br_f (by rw [nI_add]; exact nI_nlt (by omega) (by omega)) ⟨_, xl_oc_closeMark hs hT hl (by omega) l 0 (by omega) (fun y => ?_) (fun y => ?_)⟩
      · rw [if_pos y] at h
        exact br_f (by decide) h
      · rw [if_neg (by rw [y]; decide)] at h
        exact br_t rfl (nm_r (nI_1 _) (ih (x + 1) (by omega) h))
    · rw [if_neg z] at h
      refine br_t ?_ h
      rw [nI_add]
      exact nI_lt (by omega) (by omega)
theorem xl_find_closeMark {post : Int32 → Prop} {l n x : Nat} (hs : s < 4) (hT : ∀ i, i < 96 → a_text (s * 96 + i) = T i) (hl : l ≤ 3) (hn : n ≤ 96) (hx : x ≤ n) (h : post (ll_oI (s * 96) (ll_fd T a_closeMark l n (n + 1 - x) x))) : wpX_findMark__closeMark post (f_openMarkLength, f_closeMarkLength, f_openCount, f_compileFrom, nI (s * 96 + n), f_valueCount, f_outCap, f_outCount, f_frameCount, f_valueTextLength, f_renderAt, f_renderTo, f_returnAt, f_finished, f_overflowed, a_text, a_cellKind, a_cellName, a_tagEnd, a_sectionEnd, a_textLength, a_slotStatus, a_slotError, a_openMark, a_closeMark, a_openTags, a_valueKind, a_amount, a_parts, a_fieldValues, a_out, a_frameValue, a_frameList, a_frameNext, a_frameBody, a_valueText) (nI l) (nI (s * 96 + x)) := ⟨_, xl_fd_closeMark hs hT hl hn (n + 1 - x) x (by omega) h⟩
theorem xl_cm_closeMark {post : SX → Prop} {l x : Nat} (hs : s < 4) (hT : ∀ i, i < 96 → a_text (s * 96 + i) = T i) (hl : l ≤ 3) (hx : x + l ≤ 96) : ∀ d i, i + d = l → post (f_openMarkLength, f_closeMarkLength, f_openCount, f_compileFrom, f_compileTo, f_valueCount, f_outCap, f_outCount, f_frameCount, f_valueTextLength, f_renderAt, f_renderTo, f_returnAt, f_finished, f_overflowed, a_text, a_cellKind, a_cellName, a_tagEnd, a_sectionEnd, a_textLength, a_slotStatus, a_slotError, a_openMark, cy_f a_closeMark (fun j => T (x + j)) l, a_openTags, a_valueKind, a_amount, a_parts, a_fieldValues, a_out, a_frameValue, a_frameList, a_frameNext, a_frameBody, a_valueText) → wX_copyMark__closeMark_3 post (nI l) (nI (s * 96 + x)) f_openMarkLength f_closeMarkLength f_openCount f_compileFrom f_compileTo f_valueCount f_outCap f_outCount f_frameCount f_valueTextLength f_renderAt f_renderTo f_returnAt f_finished f_overflowed (d + 1) (nI i) a_text a_cellKind a_cellName a_tagEnd a_sectionEnd a_textLength a_slotStatus a_slotError a_openMark (cy_f a_closeMark (fun j => T (x + j)) i) a_openTags a_valueKind a_amount a_parts a_fieldValues a_out a_frameValue a_frameList a_frameNext a_frameBody a_valueText := by
  intro d
  induction d with
  | zero =>
    intro i hi h
    have e : i = l := by omega
    subst e
    exact br_t (nI_le (by omega) (by omega)) h
  | succ d ih =>
    intro i hi h
    refine br_f (nI_ge (by omega) (by omega)) ?_
    rw [nI_add, nI_clamp (by omega), nI_clamp (by omega), show s * 96 + x + i = s * 96 + (x + i) from by omega, hT (x + i) (by omega)]
    exact ⟨vp_in_nI (by omega) (by omega), vp_in_nI (by omega) (by omega), nm_r (cy_s (g := fun j => T (x + j))) (nm_r (nI_1 _) (ih (i + 1) (by omega) h))⟩
theorem xl_copy_closeMark {post : SX → Prop} {l x : Nat} (hs : s < 4) (hT : ∀ i, i < 96 → a_text (s * 96 + i) = T i) (hl : l ≤ 3) (hx : x + l ≤ 96) (h : post (f_openMarkLength, f_closeMarkLength, f_openCount, f_compileFrom, f_compileTo, f_valueCount, f_outCap, f_outCount, f_frameCount, f_valueTextLength, f_renderAt, f_renderTo, f_returnAt, f_finished, f_overflowed, a_text, a_cellKind, a_cellName, a_tagEnd, a_sectionEnd, a_textLength, a_slotStatus, a_slotError, a_openMark, cy_f a_closeMark (fun j => T (x + j)) l, a_openTags, a_valueKind, a_amount, a_parts, a_fieldValues, a_out, a_frameValue, a_frameList, a_frameNext, a_frameBody, a_valueText)) : wpX_copyMark__closeMark post (f_openMarkLength, f_closeMarkLength, f_openCount, f_compileFrom, f_compileTo, f_valueCount, f_outCap, f_outCount, f_frameCount, f_valueTextLength, f_renderAt, f_renderTo, f_returnAt, f_finished, f_overflowed, a_text, a_cellKind, a_cellName, a_tagEnd, a_sectionEnd, a_textLength, a_slotStatus, a_slotError, a_openMark, a_closeMark, a_openTags, a_valueKind, a_amount, a_parts, a_fieldValues, a_out, a_frameValue, a_frameList, a_frameNext, a_frameBody, a_valueText) (nI l) (nI (s * 96 + x)) := by
  have := xl_cm_closeMark (post := post) hs hT hl hx l 0 (by omega) h
  rw [cy_0] at this
  exact ⟨_, this⟩
end TXT
end LLX
end
section
section LLY
variable {g_ol g_cl g_newOl g_newCl g_tagName g_parseErr g_openCount g_nVals g_outLen g_outCap g_fn g_cn : Int32} {b_text b_len b_stat b_errPos b_removed b_tType b_tA b_tB b_tName b_tMatch b_tCount b_oc b_cc b_newO b_newC b_openName b_openTok b_vKind b_vNum b_vCnt b_vStr b_vItem b_vKey b_vVal b_out b_fv b_cKind b_cSlot b_cTok b_cVal b_cIdx b_dig : Nat → Int32}
def ll_oY : Option Nat → Int32
  | none => -1
  | some q => nI q
section TXT
variable {s : Nat} {T : Nat → Int32}
theorem yl_oc {post J : Int32 → Prop} {O : Nat → Int32} {l x n : Nat} {c : Int32} (hs : s < 4) (hT : ∀ i, i < 96 → b_text (s * 96 + i) = T i) (hl : l ≤ 3) (hx : x + l ≤ 96) (h0 : c = 0 → ∀ j, j < l → b_oc j = O j) (h1 : ¬ c = 0 → ∀ j, j < l → b_cc j = O j) : ∀ d i, i + d = l → (ll_oc T O x d i = true → post (nI x)) → (ll_oc T O x d i = false → J (nI (x + 1))) → wY_findDelim_49 post J (nI s) c (nI n) (nI l) (nI x) 1 g_ol g_cl g_newOl g_newCl g_tagName g_parseErr g_openCount g_nVals g_outLen g_outCap g_fn g_cn b_text b_len b_stat b_errPos b_removed b_tType b_tA b_tB b_tName b_tMatch b_tCount b_oc b_cc b_newO b_newC b_openName b_openTok b_vKind b_vNum b_vCnt b_vStr b_vItem b_vKey b_vVal b_out b_fv b_cKind b_cSlot b_cTok b_cVal b_cIdx b_dig (d + 1) (nI i) := by
  intro d
  induction d with
  | zero => intro i hi g1 g0; exact br_t (nI_le (by omega) (by omega)) (br_f (by decide) (g1 rfl))
  | succ d ih =>
    intro i hi g1 g0
    rw [ll_oc_s] at g1 g0
    have e : nI s * 96 + nI x + nI i = nI (s * 96 + (x + i)) := by rw [la_m96, nI_add, nI_add]; exact congrArg nI (by omega)
    have key : ∀ z : Int32, z = O i → wY_findDelim_77 post J (wY_findDelim_49 post J (nI s) c (nI n) (nI l) (nI x) 1 g_ol g_cl g_newOl g_newCl g_tagName g_parseErr g_openCount g_nVals g_outLen g_outCap g_fn g_cn b_text b_len b_stat b_errPos b_removed b_tType b_tA b_tB b_tName b_tMatch b_tCount b_oc b_cc b_newO b_newC b_openName b_openTok b_vKind b_vNum b_vCnt b_vStr b_vItem b_vKey b_vVal b_out b_fv b_cKind b_cSlot b_cTok b_cVal b_cIdx b_dig (d + 1)) (nI s) c (nI n) (nI l) (nI x) 1 (nI i) z g_ol g_cl g_newOl g_newCl g_tagName g_parseErr g_openCount g_nVals g_outLen g_outCap g_fn g_cn b_text b_len b_stat b_errPos b_removed b_tType b_tA b_tB b_tName b_tMatch b_tCount b_oc b_cc b_newO b_newC b_openName b_openTok b_vKind b_vNum b_vCnt b_vStr b_vItem b_vKey b_vVal b_out b_fv b_cKind b_cSlot b_cTok b_cVal b_cIdx b_dig := by
      intro z hz
      subst hz
      unfold wY_findDelim_77
      rw [e, nI_clamp (by omega), hT (x + i) (by omega)]
      refine ⟨vp_in_nI (by omega) (by omega), ?_⟩
      by_cases w : T (x + i) = O i
      · rw [if_pos w] at g1 g0
        exact br_t w (nm_r (nI_1 _) (ih (i + 1) (by omega) g1 g0))
      · rw [if_neg w] at g0
        exact br_f w (br_t rfl (nm_r (nI_1 _) (g0 rfl)))
    refine br_f (nI_ge (by omega) (by omega)) ⟨fun w => ⟨vp_in_nI (by omega) (by omega), key _ ?_⟩, fun w => ⟨vp_in_nI (by omega) (by omega), key _ ?_⟩⟩
    · rw [nI_clamp (by omega)]; exact h0 w i (by omega)
    · rw [nI_clamp (by omega)]; exact h1 w i (by omega)
theorem yl_fd {post : Int32 → Prop} {O : Nat → Int32} {l n : Nat} {c : Int32} (hs : s < 4) (hT : ∀ i, i < 96 → b_text (s * 96 + i) = T i) (hl : l ≤ 3) (hn : n ≤ 96) (h0 : c = 0 → ∀ j, j < l → b_oc j = O j) (h1 : ¬ c = 0 → ∀ j, j < l → b_cc j = O j) : ∀ d x, x + d = n + 1 → post (ll_oY (ll_fd T O l n d x)) → wY_findDelim_28 post (nI s) c (nI n) (nI l) g_ol g_cl g_newOl g_newCl g_tagName g_parseErr g_openCount g_nVals g_outLen g_outCap g_fn g_cn b_text b_len b_stat b_errPos b_removed b_tType b_tA b_tB b_tName b_tMatch b_tCount b_oc b_cc b_newO b_newC b_openName b_openTok b_vKind b_vNum b_vCnt b_vStr b_vItem b_vKey b_vVal b_out b_fv b_cKind b_cSlot b_cTok b_cVal b_cIdx b_dig (d + 1) (nI x) := by
  intro d
  induction d with
  | zero =>
    intro x hx h
    refine br_f (nI_pos (by omega)) (br_t ?_ h)
    rw [nI_add]
    exact nI_lt (by omega) (by omega)
  | succ d ih =>
    intro x hx h
    rw [ll_fd_u] at h
    refine br_f (nI_pos (by omega)) ?_
    by_cases z : x + l ≤ n
    · rw [if_pos z] at h
      refine br_f (by rw [nI_add]; exact nI_nlt (by omega) (by omega)) ⟨_, yl_oc hs hT hl (by omega) h0 h1 l 0 (by omega) (fun y => ?_) (fun y => ?_)⟩
      · rw [if_pos y] at h
        exact h
      · rw [if_neg (by rw [y]; decide)] at h
        exact ih (x + 1) (by omega) h
    · rw [if_neg z] at h
      refine br_t ?_ h
      rw [nI_add]
      exact nI_lt (by omega) (by omega)
theorem yl_find0 {post : Int32 → Prop} {O : Nat → Int32} {l n x : Nat} (hs : s < 4) (hT : ∀ i, i < 96 → b_text (s * 96 + i) = T i) (hL : b_len s = nI n) (hl : l ≤ 3) (hn : n ≤ 96) (hx : x ≤ n) (hO : ∀ j, j < l → b_oc j = O j) (h : post (ll_oY (ll_fd T O l n (n + 1 - x) x))) : wpY_findDelim post (nI l, g_cl, g_newOl, g_newCl, g_tagName, g_parseErr, g_openCount, g_nVals, g_outLen, g_outCap, g_fn, g_cn, b_text, b_len, b_stat, b_errPos, b_removed, b_tType, b_tA, b_tB, b_tName, b_tMatch, b_tCount, b_oc, b_cc, b_newO, b_newC, b_openName, b_openTok, b_vKind, b_vNum, b_vCnt, b_vStr, b_vItem, b_vKey, b_vVal, b_out, b_fv, b_cKind, b_cSlot, b_cTok, b_cVal, b_cIdx, b_dig) (nI s) (nI x) 0 :=
  ⟨vp_in_nI hs (by omega), nm_r (by rw [nI_clamp (by omega)]; exact hL) (br_t rfl ⟨_, yl_fd hs hT hl hn (fun _ => hO) (fun z => absurd rfl z) (n + 1 - x) x (by omega) h⟩)⟩
theorem yl_find1 {post : Int32 → Prop} {O : Nat → Int32} {l n x : Nat} (hs : s < 4) (hT : ∀ i, i < 96 → b_text (s * 96 + i) = T i) (hL : b_len s = nI n) (hl : l ≤ 3) (hn : n ≤ 96) (hx : x ≤ n) (hO : ∀ j, j < l → b_cc j = O j) (h : post (ll_oY (ll_fd T O l n (n + 1 - x) x))) : wpY_findDelim post (g_ol, nI l, g_newOl, g_newCl, g_tagName, g_parseErr, g_openCount, g_nVals, g_outLen, g_outCap, g_fn, g_cn, b_text, b_len, b_stat, b_errPos, b_removed, b_tType, b_tA, b_tB, b_tName, b_tMatch, b_tCount, b_oc, b_cc, b_newO, b_newC, b_openName, b_openTok, b_vKind, b_vNum, b_vCnt, b_vStr, b_vItem, b_vKey, b_vVal, b_out, b_fv, b_cKind, b_cSlot, b_cTok, b_cVal, b_cIdx, b_dig) (nI s) (nI x) 1 :=
  ⟨vp_in_nI hs (by omega), nm_r (by rw [nI_clamp (by omega)]; exact hL) (br_f (by decide) ⟨_, yl_fd hs hT hl hn (fun z => absurd z (by decide)) (fun _ => hO) (n + 1 - x) x (by omega) h⟩)⟩
theorem yl_s38 {post : Int32 → Prop} {lo : Nat} (hs : s < 4) (hT : ∀ i, i < 96 → b_text (s * 96 + i) = T i) : ∀ d j, lo + d = j → j ≤ 96 → wY_single_73 post (nI s) (nI lo) (nI (ll_sb T d j)) g_ol g_cl g_newOl g_newCl g_tagName g_parseErr g_openCount g_nVals g_outLen g_outCap g_fn g_cn b_text b_len b_stat b_errPos b_removed b_tType b_tA b_tB b_tName b_tMatch b_tCount b_oc b_cc b_newO b_newC b_openName b_openTok b_vKind b_vNum b_vCnt b_vStr b_vItem b_vKey b_vVal b_out b_fv b_cKind b_cSlot b_cTok b_cVal b_cIdx b_dig → wY_single_38 post (nI s) (nI lo) g_ol g_cl g_newOl g_newCl g_tagName g_parseErr g_openCount g_nVals g_outLen g_outCap g_fn g_cn b_text b_len b_stat b_errPos b_removed b_tType b_tA b_tB b_tName b_tMatch b_tCount b_oc b_cc b_newO b_newC b_openName b_openTok b_vKind b_vNum b_vCnt b_vStr b_vItem b_vKey b_vVal b_out b_fv b_cKind b_cSlot b_cTok b_cVal b_cIdx b_dig (d + 1) (nI j) := by
  intro d
  induction d with
  | zero => intro j hi hj h; exact br_t (nI_le (by omega) (by omega)) h
  | succ d ih =>
    intro j hi hj h
    have e1 : nI s * 96 + nI j - 1 = nI (s * 96 + (j - 1)) := by rw [la_m96, nI_add, la_s (by omega)]; exact congrArg nI (by omega)
    refine br_f (nI_ge (by omega) (by omega)) ?_
    rw [e1, nI_clamp (by omega), hT (j - 1) (by omega)]
    refine ⟨vp_in_nI (by omega) (by omega), ?_⟩
    rw [ll_sb_u] at h
    by_cases z : T (j - 1) = 32
    · rw [if_pos z] at h
      exact br_t z (nm_r (la_m (by omega)) (ih (j - 1) (by omega) (by omega) h))
    · rw [if_neg z] at h
      exact br_f z h
theorem yl_s3 {post : Int32 → Prop} {e : Nat} (hs : s < 4) (hT : ∀ i, i < 96 → b_text (s * 96 + i) = T i) (he : e ≤ 96) : ∀ d i, i + d = e → (∃ n38, wY_single_38 post (nI s) (nI (ll_sp T d i)) g_ol g_cl g_newOl g_newCl g_tagName g_parseErr g_openCount g_nVals g_outLen g_outCap g_fn g_cn b_text b_len b_stat b_errPos b_removed b_tType b_tA b_tB b_tName b_tMatch b_tCount b_oc b_cc b_newO b_newC b_openName b_openTok b_vKind b_vNum b_vCnt b_vStr b_vItem b_vKey b_vVal b_out b_fv b_cKind b_cSlot b_cTok b_cVal b_cIdx b_dig n38 (nI e)) → wY_single_3 post (nI s) (nI e) g_ol g_cl g_newOl g_newCl g_tagName g_parseErr g_openCount g_nVals g_outLen g_outCap g_fn g_cn b_text b_len b_stat b_errPos b_removed b_tType b_tA b_tB b_tName b_tMatch b_tCount b_oc b_cc b_newO b_newC b_openName b_openTok b_vKind b_vNum b_vCnt b_vStr b_vItem b_vKey b_vVal b_out b_fv b_cKind b_cSlot b_cTok b_cVal b_cIdx b_dig (d + 1) (nI i) := by
  intro d
  induction d with
  | zero => intro i hi h; exact br_t (nI_le (by omega) (by omega)) h
  | succ d ih =>
    intro i hi h
    refine br_f (nI_ge (by omega) (by omega)) ?_
    rw [la_m96, nI_add, nI_clamp (by omega), hT i (by omega)]
    refine ⟨vp_in_nI (by omega) (by omega), ?_⟩
    rw [ll_sp_u] at h
    by_cases z : T i = 32
    · rw [if_pos z] at h
      exact br_t z (nm_r (nI_1 _) (ih (i + 1) (by omega) h))
    · rw [if_neg z] at h
      exact br_f z h
theorem yl_single {post : Int32 → Prop} {lo hi : Nat} (hs : s < 4) (hT : ∀ i, i < 96 → b_text (s * 96 + i) = T i) (hh : hi ≤ 96) (hl : lo ≤ hi) (h : post (ll_on T lo hi)) : wpY_single post (g_ol, g_cl, g_newOl, g_newCl, g_tagName, g_parseErr, g_openCount, g_nVals, g_outLen, g_outCap, g_fn, g_cn, b_text, b_len, b_stat, b_errPos, b_removed, b_tType, b_tA, b_tB, b_tName, b_tMatch, b_tCount, b_oc, b_cc, b_newO, b_newC, b_openName, b_openTok, b_vKind, b_vNum, b_vCnt, b_vStr, b_vItem, b_vKey, b_vVal, b_out, b_fv, b_cKind, b_cSlot, b_cTok, b_cVal, b_cIdx, b_dig) (nI s) (nI lo) (nI hi) := by
  have b1 := ll_of_b (T := T) hl
  have b2 := ll_ol_b (T := T) hl
  refine ⟨_, yl_s3 hs hT hh (hi - lo) lo (by omega) ⟨_, yl_s38 (lo := ll_of T lo hi) hs hT (hi - ll_of T lo hi) hi (by omega) hh ?_⟩⟩
  show wY_single_73 post (nI s) (nI (ll_of T lo hi)) (nI (ll_ol T lo hi)) g_ol g_cl g_newOl g_newCl g_tagName g_parseErr g_openCount g_nVals g_outLen g_outCap g_fn g_cn b_text b_len b_stat b_errPos b_removed b_tType b_tA b_tB b_tName b_tMatch b_tCount b_oc b_cc b_newO b_newC b_openName b_openTok b_vKind b_vNum b_vCnt b_vStr b_vItem b_vKey b_vVal b_out b_fv b_cKind b_cSlot b_cTok b_cVal b_cIdx b_dig
  unfold wY_single_73
  rw [pk_sub b2.1, la_m96, nI_add, nI_clamp (by omega)]
  unfold ll_on at h
  refine pk_eq (ll_ol T lo hi - ll_of T lo hi) 1 (fun z => ⟨vp_in_nI (by omega) (by omega), ?_⟩) (fun z => ?_)
  · rw [if_pos (by omega)] at h
    rw [hT _ (by omega)]
    exact h
  · rw [if_neg (by omega)] at h
    exact h
theorem yl_isN {post : Int32 → Prop} {c : Int32} (h1 : ll_nm c → post 1) (h0 : ¬ ll_nm c → post 0) : wpY_isName post (g_ol, g_cl, g_newOl, g_newCl, g_tagName, g_parseErr, g_openCount, g_nVals, g_outLen, g_outCap, g_fn, g_cn, b_text, b_len, b_stat, b_errPos, b_removed, b_tType, b_tA, b_tB, b_tName, b_tMatch, b_tCount, b_oc, b_cc, b_newO, b_newC, b_openName, b_openTok, b_vKind, b_vNum, b_vCnt, b_vStr, b_vItem, b_vKey, b_vVal, b_out, b_fv, b_cKind, b_cSlot, b_cTok, b_cVal, b_cIdx, b_dig) c := by
  by_cases a : c = 46
  · exact br_t a (h1 (Or.inl a))
  · refine br_f a (br_c (fun z => h0 ?_) (fun z => br_c (fun w => h0 ?_) (fun w => h1 (Or.inr ⟨Int32.not_lt.mp z, Int32.not_lt.mp w⟩))))
    · rintro (y | y)
      · exact a y
      · exact absurd z (Int32.not_lt.mpr y.1)
    · rintro (y | y)
      · exact a y
      · exact absurd w (Int32.not_lt.mpr y.2)
end TXT
end LLY
end
section
section LLQ
theorem i_vc_templateLength {k : Nat} {u : SX} {v : SY} (I : i_Rel k u v) (hk : k + 4 ≤ 2049) (v1 : Int32) : wpX_templateLength (fun r => wpY_templateLength (fun r' => r' = r ∧ i_Rel (k + 4) u v) v v1) u v1 := by
  refine ir_el (P := fun u v => wpX_templateLength (fun r => wpY_templateLength (fun r' => r' = r ∧ i_Rel (k + 4) u v) v v1) u v1) I ?_
  intro f_openMarkLength f_closeMarkLength f_openCount f_compileFrom f_compileTo f_frameCount f_valueTextLength f_renderAt f_renderTo f_returnAt f_finished f_overflowed a_text a_cellKind a_cellName a_tagEnd a_sectionEnd a_textLength a_slotStatus a_slotError a_openMark a_closeMark a_openTags a_valueKind a_amount a_parts a_fieldValues a_out a_frameValue a_frameList a_frameNext a_frameBody a_valueText g_ol g_cl g_newOl g_newCl g_tagName g_parseErr g_openCount g_fn g_cn b_removed b_tType b_tA b_tB b_tName b_tMatch b_tCount b_oc b_cc b_newO b_newC b_openName b_openTok b_vKind b_vNum b_vCnt b_vStr b_vItem b_vKey b_vVal b_fv b_cKind b_cSlot b_cTok b_cVal b_cIdx b_dig ln nv oc cap kd ct hc1 hc2 hoc hT hV
  unfold wpX_templateLength wpY_templateLength
  rcases pk_ix v1 (n := 4) (by omega) with h | h | ⟨s, hs, rfl⟩
  · exact xl_nslot (Or.inl h) (br_t rfl (br_t h ⟨rfl, ir_mk hc1 hc2 hoc hT hV⟩))
  · exact xl_nslot (Or.inr h) (br_t rfl (br_c (fun _ => ⟨rfl, ir_mk hc1 hc2 hoc hT hV⟩) (fun _ => br_f (fun z => absurd (Int32.le_trans h z) (by decide)) ⟨rfl, ir_mk hc1 hc2 hoc hT hV⟩)))
  · exact xl_slot hs (br_f (by decide) ⟨vp_in_nI hs (by omega), br_f (nI_pos (by omega)) (br_t (nI_le (b := 3) (by omega) (by decide)) ⟨vp_in_nI hs (by omega), rfl, ir_mk hc1 hc2 hoc hT hV⟩)⟩)
theorem i_vc_status {k : Nat} {u : SX} {v : SY} (I : i_Rel k u v) (hk : k + 4 ≤ 2049) (v1 : Int32) : wpX_status (fun r => wpY_status (fun r' => r' = r ∧ i_Rel (k + 4) u v) v v1) u v1 := by
  refine ir_el (P := fun u v => wpX_status (fun r => wpY_status (fun r' => r' = r ∧ i_Rel (k + 4) u v) v v1) u v1) I ?_
  intro f_openMarkLength f_closeMarkLength f_openCount f_compileFrom f_compileTo f_frameCount f_valueTextLength f_renderAt f_renderTo f_returnAt f_finished f_overflowed a_text a_cellKind a_cellName a_tagEnd a_sectionEnd a_textLength a_slotStatus a_slotError a_openMark a_closeMark a_openTags a_valueKind a_amount a_parts a_fieldValues a_out a_frameValue a_frameList a_frameNext a_frameBody a_valueText g_ol g_cl g_newOl g_newCl g_tagName g_parseErr g_openCount g_fn g_cn b_removed b_tType b_tA b_tB b_tName b_tMatch b_tCount b_oc b_cc b_newO b_newC b_openName b_openTok b_vKind b_vNum b_vCnt b_vStr b_vItem b_vKey b_vVal b_fv b_cKind b_cSlot b_cTok b_cVal b_cIdx b_dig ln nv oc cap kd ct hc1 hc2 hoc hT hV
  unfold wpX_status wpY_status
  rcases pk_ix v1 (n := 4) (by omega) with h | h | ⟨s, hs, rfl⟩
  · exact xl_nslot (Or.inl h) (br_t rfl (br_t h ⟨rfl, ir_mk hc1 hc2 hoc hT hV⟩))
  · exact xl_nslot (Or.inr h) (br_t rfl (br_c (fun _ => ⟨rfl, ir_mk hc1 hc2 hoc hT hV⟩) (fun _ => br_f (fun z => absurd (Int32.le_trans h z) (by decide)) ⟨rfl, ir_mk hc1 hc2 hoc hT hV⟩)))
  · exact xl_slot hs (br_f (by decide) ⟨vp_in_nI hs (by omega), br_f (nI_pos (by omega)) (br_t (nI_le (b := 3) (by omega) (by decide)) ⟨vp_in_nI hs (by omega), rfl, ir_mk hc1 hc2 hoc hT hV⟩)⟩)
theorem i_vc_errorAt {k : Nat} {u : SX} {v : SY} (I : i_Rel k u v) (hk : k + 4 ≤ 2049) (v1 : Int32) : wpX_errorAt (fun r => wpY_errorAt (fun r' => r' = r ∧ i_Rel (k + 4) u v) v v1) u v1 := by
  refine ir_el (P := fun u v => wpX_errorAt (fun r => wpY_errorAt (fun r' => r' = r ∧ i_Rel (k + 4) u v) v v1) u v1) I ?_
  intro f_openMarkLength f_closeMarkLength f_openCount f_compileFrom f_compileTo f_frameCount f_valueTextLength f_renderAt f_renderTo f_returnAt f_finished f_overflowed a_text a_cellKind a_cellName a_tagEnd a_sectionEnd a_textLength a_slotStatus a_slotError a_openMark a_closeMark a_openTags a_valueKind a_amount a_parts a_fieldValues a_out a_frameValue a_frameList a_frameNext a_frameBody a_valueText g_ol g_cl g_newOl g_newCl g_tagName g_parseErr g_openCount g_fn g_cn b_removed b_tType b_tA b_tB b_tName b_tMatch b_tCount b_oc b_cc b_newO b_newC b_openName b_openTok b_vKind b_vNum b_vCnt b_vStr b_vItem b_vKey b_vVal b_fv b_cKind b_cSlot b_cTok b_cVal b_cIdx b_dig ln nv oc cap kd ct hc1 hc2 hoc hT hV
  unfold wpX_errorAt wpY_errorAt
  rcases pk_ix v1 (n := 4) (by omega) with h | h | ⟨s, hs, rfl⟩
  · exact xl_nslot (Or.inl h) (br_t rfl (br_t h ⟨rfl, ir_mk hc1 hc2 hoc hT hV⟩))
  · exact xl_nslot (Or.inr h) (br_t rfl (br_c (fun _ => ⟨rfl, ir_mk hc1 hc2 hoc hT hV⟩) (fun _ => br_f (fun z => absurd (Int32.le_trans h z) (by decide)) ⟨rfl, ir_mk hc1 hc2 hoc hT hV⟩)))
  · exact xl_slot hs (br_f (by decide) ⟨vp_in_nI hs (by omega), br_f (nI_pos (by omega)) (br_t (nI_le (b := 3) (by omega) (by decide)) ⟨vp_in_nI hs (by omega), rfl, ir_mk hc1 hc2 hoc hT hV⟩)⟩)
theorem i_vc_outLength {k : Nat} {u : SX} {v : SY} (I : i_Rel k u v) (hk : k + 4 ≤ 2049) : wpX_outLength (fun r => wpY_outLength (fun r' => r' = r ∧ i_Rel (k + 4) u v) v) u := by
  refine ir_el (P := fun u v => wpX_outLength (fun r => wpY_outLength (fun r' => r' = r ∧ i_Rel (k + 4) u v) v) u) I ?_
  intro f_openMarkLength f_closeMarkLength f_openCount f_compileFrom f_compileTo f_frameCount f_valueTextLength f_renderAt f_renderTo f_returnAt f_finished f_overflowed a_text a_cellKind a_cellName a_tagEnd a_sectionEnd a_textLength a_slotStatus a_slotError a_openMark a_closeMark a_openTags a_valueKind a_amount a_parts a_fieldValues a_out a_frameValue a_frameList a_frameNext a_frameBody a_valueText g_ol g_cl g_newOl g_newCl g_tagName g_parseErr g_openCount g_fn g_cn b_removed b_tType b_tA b_tB b_tName b_tMatch b_tCount b_oc b_cc b_newO b_newC b_openName b_openTok b_vKind b_vNum b_vCnt b_vStr b_vItem b_vKey b_vVal b_fv b_cKind b_cSlot b_cTok b_cVal b_cIdx b_dig ln nv oc cap kd ct hc1 hc2 hoc hT hV
  exact ⟨rfl, ir_mk hc1 hc2 hoc hT hV⟩
theorem i_vc_outChar {k : Nat} {u : SX} {v : SY} (I : i_Rel k u v) (hk : k + 4 ≤ 2049) (v1 : Int32) : wpX_outChar (fun r => wpY_outChar (fun r' => r' = r ∧ i_Rel (k + 4) u v) v v1) u v1 := by
  refine ir_el (P := fun u v => wpX_outChar (fun r => wpY_outChar (fun r' => r' = r ∧ i_Rel (k + 4) u v) v v1) u v1) I ?_
  intro f_openMarkLength f_closeMarkLength f_openCount f_compileFrom f_compileTo f_frameCount f_valueTextLength f_renderAt f_renderTo f_returnAt f_finished f_overflowed a_text a_cellKind a_cellName a_tagEnd a_sectionEnd a_textLength a_slotStatus a_slotError a_openMark a_closeMark a_openTags a_valueKind a_amount a_parts a_fieldValues a_out a_frameValue a_frameList a_frameNext a_frameBody a_valueText g_ol g_cl g_newOl g_newCl g_tagName g_parseErr g_openCount g_fn g_cn b_removed b_tType b_tA b_tB b_tName b_tMatch b_tCount b_oc b_cc b_newO b_newC b_openName b_openTok b_vKind b_vNum b_vCnt b_vStr b_vItem b_vKey b_vVal b_fv b_cKind b_cSlot b_cTok b_cVal b_cIdx b_dig ln nv oc cap kd ct hc1 hc2 hoc hT hV
  unfold wpX_outChar wpY_outChar
  rcases pk_ix v1 (n := oc) (by omega) with h | h | ⟨j, hj, rfl⟩
  · exact br_t h (br_t h ⟨rfl, ir_mk hc1 hc2 hoc hT hV⟩)
  · have h0 : ¬ v1 < 0 := fun z => absurd (Int32.lt_of_le_of_lt h z) (nI_pos (by omega))
    exact br_f h0 (br_t h (br_f h0 (br_f (Int32.not_lt.mpr h) ⟨rfl, ir_mk hc1 hc2 hoc hT hV⟩)))
  · exact br_f (nI_pos (by omega)) (br_f (nI_ge hj (by omega)) ⟨vp_in_nI (by omega) (by omega), br_f (nI_pos (by omega)) (br_t (nI_lt hj (by omega)) ⟨vp_in_nI (by omega) (by omega), rfl, ir_mk hc1 hc2 hoc hT hV⟩)⟩)
theorem i_vc_templateChar {k : Nat} {u : SX} {v : SY} (I : i_Rel k u v) (hk : k + 4 ≤ 2049) (v1 : Int32) (v2 : Int32) : wpX_templateChar (fun r => wpY_templateChar (fun r' => r' = r ∧ i_Rel (k + 4) u v) v v1 v2) u v1 v2 := by
  refine ir_el (P := fun u v => wpX_templateChar (fun r => wpY_templateChar (fun r' => r' = r ∧ i_Rel (k + 4) u v) v v1 v2) u v1 v2) I ?_
  intro f_openMarkLength f_closeMarkLength f_openCount f_compileFrom f_compileTo f_frameCount f_valueTextLength f_renderAt f_renderTo f_returnAt f_finished f_overflowed a_text a_cellKind a_cellName a_tagEnd a_sectionEnd a_textLength a_slotStatus a_slotError a_openMark a_closeMark a_openTags a_valueKind a_amount a_parts a_fieldValues a_out a_frameValue a_frameList a_frameNext a_frameBody a_valueText g_ol g_cl g_newOl g_newCl g_tagName g_parseErr g_openCount g_fn g_cn b_removed b_tType b_tA b_tB b_tName b_tMatch b_tCount b_oc b_cc b_newO b_newC b_openName b_openTok b_vKind b_vNum b_vCnt b_vStr b_vItem b_vKey b_vVal b_fv b_cKind b_cSlot b_cTok b_cVal b_cIdx b_dig ln nv oc cap kd ct hc1 hc2 hoc hT hV
  unfold wpX_templateChar wpY_templateChar
  rcases pk_ix v1 (n := 4) (by omega) with h | h | ⟨s, hs, rfl⟩
  · exact xl_nslot (Or.inl h) (br_t rfl (br_t h ⟨rfl, ir_mk hc1 hc2 hoc hT hV⟩))
  · exact xl_nslot (Or.inr h) (br_t rfl (br_c (fun _ => ⟨rfl, ir_mk hc1 hc2 hoc hT hV⟩) (fun _ => br_f (fun z => absurd (Int32.le_trans h z) (by decide)) ⟨rfl, ir_mk hc1 hc2 hoc hT hV⟩)))
  · have hl := hT.1 s hs
    refine xl_slot hs (br_f (by decide) ?_)
    have y0 : ¬ nI s < 0 := nI_pos (by omega)
    have y3 : nI s ≤ 3 := nI_le (b := 3) (by omega) (by decide)
    by_cases z0 : v2 < 0
    · exact br_t z0 (br_f y0 (br_t y3 (br_t z0 ⟨rfl, ir_mk hc1 hc2 hoc hT hV⟩)))
    · obtain ⟨i, hi, rfl⟩ := nI_of z0
      refine br_f z0 ⟨vp_in_nI hs (by omega), ?_⟩
      rw [nI_clamp (show s < 2 ^ 31 from by omega), hl.2, la_m96, nI_add]
      refine pk_lt i (ln s) (fun z => ⟨vp_in_nI (by omega) (by omega), ?_⟩) (fun z => ?_)
      · refine br_f y0 (br_t y3 (br_f z0 ⟨vp_in_nI hs (by omega), br_t (by rw [hl.2]; exact nI_lt z (by omega)) ⟨vp_in_nI (by omega) (by omega), rfl, ir_mk hc1 hc2 hoc hT hV⟩⟩))
      · refine br_f y0 (br_t y3 (br_f z0 ⟨vp_in_nI hs (by omega), br_f (by rw [hl.2]; exact nI_nlt z (by omega)) ⟨rfl, ir_mk hc1 hc2 hoc hT hV⟩⟩))
end LLQ
end
section
section LLV
theorem id_ix (x : Int32) {nv : Nat} (h : nv ≤ 32) : (x < 1 ∨ nI nv < x) ∨ ∃ j, j < nv ∧ x = nI (j + 1) := by
  by_cases h1 : x < 1
  · exact Or.inl (Or.inl h1)
  · have h0 : ¬ x < 0 := fun z => h1 (Int32.lt_trans z (by decide))
    obtain ⟨i, hi, rfl⟩ := nI_of h0
    by_cases h2 : i ≤ nv
    · have h3 : ¬ i = 0 := by
        intro z
        subst z
        exact h1 (by decide)
      exact Or.inr ⟨i - 1, by omega, congrArg nI (by omega)⟩
    · exact Or.inl (Or.inr (nI_lt (by omega) hi))
section KO
variable {f_openMarkLength f_closeMarkLength f_openCount f_compileFrom f_compileTo f_valueCount f_outCap f_outCount f_frameCount f_valueTextLength f_renderAt f_renderTo f_returnAt f_finished f_overflowed : Int32} {a_text a_cellKind a_cellName a_tagEnd a_sectionEnd a_textLength a_slotStatus a_slotError a_openMark a_closeMark a_openTags a_valueKind a_amount a_parts a_fieldValues a_out a_frameValue a_frameList a_frameNext a_frameBody a_valueText : Nat → Int32} {g_ol g_cl g_newOl g_newCl g_tagName g_parseErr g_openCount g_nVals g_outLen g_outCap g_fn g_cn : Int32} {b_text b_len b_stat b_errPos b_removed b_tType b_tA b_tB b_tName b_tMatch b_tCount b_oc b_cc b_newO b_newC b_openName b_openTok b_vKind b_vNum b_vCnt b_vStr b_vItem b_vKey b_vVal b_out b_fv b_cKind b_cSlot b_cTok b_cVal b_cIdx b_dig : Nat → Int32} {nv : Nat}
theorem xl_kin {post : Int32 → Prop} {j : Nat} {q : Int32} (hn : nv ≤ 32) (hj : j < nv) (hq : a_valueKind (j + 1) = q) (h : post q) : wpX_kindOf post (f_openMarkLength, f_closeMarkLength, f_openCount, f_compileFrom, f_compileTo, nI nv, f_outCap, f_outCount, f_frameCount, f_valueTextLength, f_renderAt, f_renderTo, f_returnAt, f_finished, f_overflowed, a_text, a_cellKind, a_cellName, a_tagEnd, a_sectionEnd, a_textLength, a_slotStatus, a_slotError, a_openMark, a_closeMark, a_openTags, a_valueKind, a_amount, a_parts, a_fieldValues, a_out, a_frameValue, a_frameList, a_frameNext, a_frameBody, a_valueText) (nI (j + 1)) := by
  refine br_f (nI_nlt (b := 1) (by omega) (by omega)) (br_f (nI_nlt (by omega) (by omega)) ⟨vp_in_nI (by omega) (by omega), ?_⟩)
  rw [nI_clamp (by omega), hq]
  exact h
theorem xl_kout {post : Int32 → Prop} {x : Int32} (hx : x < 1 ∨ nI nv < x) (h : post 0) : wpX_kindOf post (f_openMarkLength, f_closeMarkLength, f_openCount, f_compileFrom, f_compileTo, nI nv, f_outCap, f_outCount, f_frameCount, f_valueTextLength, f_renderAt, f_renderTo, f_returnAt, f_finished, f_overflowed, a_text, a_cellKind, a_cellName, a_tagEnd, a_sectionEnd, a_textLength, a_slotStatus, a_slotError, a_openMark, a_closeMark, a_openTags, a_valueKind, a_amount, a_parts, a_fieldValues, a_out, a_frameValue, a_frameList, a_frameNext, a_frameBody, a_valueText) x := by
  rcases hx with z | z
  · exact br_t z h
  · exact br_c (fun _ => h) (fun _ => br_t z h)
theorem yl_kin {post : Int32 → Prop} {j : Nat} {q : Int32} (hn : nv ≤ 32) (hj : j < nv) (hq : b_vKind j = q) (h : post q) : wpY_kindOf post (g_ol, g_cl, g_newOl, g_newCl, g_tagName, g_parseErr, g_openCount, nI nv, g_outLen, g_outCap, g_fn, g_cn, b_text, b_len, b_stat, b_errPos, b_removed, b_tType, b_tA, b_tB, b_tName, b_tMatch, b_tCount, b_oc, b_cc, b_newO, b_newC, b_openName, b_openTok, b_vKind, b_vNum, b_vCnt, b_vStr, b_vItem, b_vKey, b_vVal, b_out, b_fv, b_cKind, b_cSlot, b_cTok, b_cVal, b_cIdx, b_dig) (nI (j + 1)) := by
  refine br_f (nI_nlt (b := 1) (by omega) (by omega)) (br_t (nI_le (by omega) (by omega)) ?_)
  rw [nI_pred, nI_clamp (by omega), hq]
  exact ⟨vp_in_nI (by omega) (by omega), h⟩
theorem yl_kout {post : Int32 → Prop} {x : Int32} (hx : x < 1 ∨ nI nv < x) (h : post 0) : wpY_kindOf post (g_ol, g_cl, g_newOl, g_newCl, g_tagName, g_parseErr, g_openCount, nI nv, g_outLen, g_outCap, g_fn, g_cn, b_text, b_len, b_stat, b_errPos, b_removed, b_tType, b_tA, b_tB, b_tName, b_tMatch, b_tCount, b_oc, b_cc, b_newO, b_newC, b_openName, b_openTok, b_vKind, b_vNum, b_vCnt, b_vStr, b_vItem, b_vKey, b_vVal, b_out, b_fv, b_cKind, b_cSlot, b_cTok, b_cVal, b_cIdx, b_dig) x := by
  rcases hx with z | z
  · exact br_t z h
  · exact br_c (fun _ => h) (fun _ => br_f (Int32.not_le.mpr z) h)
theorem xl_vin {post : Int32 → Prop} {j q : Nat} (hn : nv ≤ 32) (hj : j < nv) (hq : a_valueKind (j + 1) = nI q) (h1 : 1 ≤ q) (h6 : q ≤ 6) (h : post 1) : wpX_isValue post (f_openMarkLength, f_closeMarkLength, f_openCount, f_compileFrom, f_compileTo, nI nv, f_outCap, f_outCount, f_frameCount, f_valueTextLength, f_renderAt, f_renderTo, f_returnAt, f_finished, f_overflowed, a_text, a_cellKind, a_cellName, a_tagEnd, a_sectionEnd, a_textLength, a_slotStatus, a_slotError, a_openMark, a_closeMark, a_openTags, a_valueKind, a_amount, a_parts, a_fieldValues, a_out, a_frameValue, a_frameList, a_frameNext, a_frameBody, a_valueText) (nI (j + 1)) := by
  unfold wpX_isValue
  exact xl_kin hn hj hq (br_f (nI_ne0 (by omega) (by omega)) h)
theorem xl_vout {post : Int32 → Prop} {x : Int32} (hx : x < 1 ∨ nI nv < x) (h : post 0) : wpX_isValue post (f_openMarkLength, f_closeMarkLength, f_openCount, f_compileFrom, f_compileTo, nI nv, f_outCap, f_outCount, f_frameCount, f_valueTextLength, f_renderAt, f_renderTo, f_returnAt, f_finished, f_overflowed, a_text, a_cellKind, a_cellName, a_tagEnd, a_sectionEnd, a_textLength, a_slotStatus, a_slotError, a_openMark, a_closeMark, a_openTags, a_valueKind, a_amount, a_parts, a_fieldValues, a_out, a_frameValue, a_frameList, a_frameNext, a_frameBody, a_valueText) x := by
  unfold wpX_isValue
  exact xl_kout hx (br_t rfl h)
theorem xl_prin {post : Int32 → Prop} {c : Int32} (h1 : 32 ≤ c → c ≤ 126 → post 1) (h0 : ¬ (32 ≤ c ∧ c ≤ 126) → post 0) : wpX_isPrintable post (f_openMarkLength, f_closeMarkLength, f_openCount, f_compileFrom, f_compileTo, f_valueCount, f_outCap, f_outCount, f_frameCount, f_valueTextLength, f_renderAt, f_renderTo, f_returnAt, f_finished, f_overflowed, a_text, a_cellKind, a_cellName, a_tagEnd, a_sectionEnd, a_textLength, a_slotStatus, a_slotError, a_openMark, a_closeMark, a_openTags, a_valueKind, a_amount, a_parts, a_fieldValues, a_out, a_frameValue, a_frameList, a_frameNext, a_frameBody, a_valueText) c := by
  refine br_c (fun z => h0 (fun y => absurd z (Int32.not_lt.mpr y.1))) (fun z => br_c (fun w => h0 (fun y => absurd w (Int32.not_lt.mpr y.2))) (fun w => h1 (Int32.not_lt.mp z) (Int32.not_lt.mp w)))
theorem xl_let {post : Int32 → Prop} {c : Int32} (h1 : 97 ≤ c → c ≤ 122 → post 1) (h0 : ¬ (97 ≤ c ∧ c ≤ 122) → post 0) : wpX_isLetter post (f_openMarkLength, f_closeMarkLength, f_openCount, f_compileFrom, f_compileTo, f_valueCount, f_outCap, f_outCount, f_frameCount, f_valueTextLength, f_renderAt, f_renderTo, f_returnAt, f_finished, f_overflowed, a_text, a_cellKind, a_cellName, a_tagEnd, a_sectionEnd, a_textLength, a_slotStatus, a_slotError, a_openMark, a_closeMark, a_openTags, a_valueKind, a_amount, a_parts, a_fieldValues, a_out, a_frameValue, a_frameList, a_frameNext, a_frameBody, a_valueText) c := by
  refine br_c (fun z => h0 (fun y => absurd z (Int32.not_lt.mpr y.1))) (fun z => br_c (fun w => h0 (fun y => absurd w (Int32.not_lt.mpr y.2))) (fun w => h1 (Int32.not_lt.mp z) (Int32.not_lt.mp w)))
end KO
section VL
variable {nv : Nat} {kd ct : Nat → Nat} {xk am pt fd yk yn yc ys yi yq yv : Nat → Int32}
theorem vl_new (h : vl_R nv kd ct xk am pt fd yk yn yc ys yi yq yv) (hn : nv < 32) {q : Nat} (h1 : 1 ≤ q) (h6 : q ≤ 6) (x : Int32) (hx : q ≠ 3 → x = 0) :
    vl_R (nv + 1) (fu kd (nv + 1) q) (fu ct (nv + 1) 0) (upd xk (nv + 1) (nI q)) (upd am (nv + 1) x) pt fd (upd yk nv (nI q)) (upd yn nv x) (upd yc nv 0) ys yi yq yv := by
  refine ⟨by omega, fun j hj => ?_⟩
  by_cases e : j = nv
  · subst e
    rw [fu_s, fu_s, pk_us, pk_us, pk_us, pk_us, pk_us]
    exact ⟨h1, h6, by omega, rfl, rfl, rfl, fun _ => rfl, hx, fun _ => rfl, fun _ => by omega, fun _ i hi => absurd hi (by omega), fun _ i hi => absurd hi (by omega), fun _ i hi => absurd hi (by omega)⟩
  · simp only [fu_n (show j + 1 ≠ nv + 1 from by omega), pk_un (show j + 1 ≠ nv + 1 from by omega), pk_un e]
    obtain ⟨g1, g2, g3, g4, g5, g6, g7, g8, g9, g10, g11, g12, g13⟩ := h.2 j (by omega)
    refine ⟨g1, g2, g3, g4, g5, g6, g7, g8, g9, g10, g11, fun z i hi => ?_, fun z i hi => ?_⟩
    · obtain ⟨a, w, b, c, d⟩ := g12 z i hi
      exact ⟨a, w, b, by omega, d⟩
    · obtain ⟨a, a2, w, b, c, d⟩ := g13 z i hi
      exact ⟨a, a2, w, b, by omega, d⟩
/-- one part more for the value j + 1 -/
theorem vl_add (h : vl_R nv kd ct xk am pt fd yk yn yc ys yi yq yv) {j : Nat} (hj : j < nv) {fd' ys' yi' yq' yv' : Nat → Int32} (c : Int32) (hk : 4 ≤ kd (j + 1)) (h8 : ct (j + 1) < 8) (h4 : 5 ≤ kd (j + 1) → ct (j + 1) < 4)
    (es : ∀ x, (kd (j + 1) = 4 → x ≠ j * 8 + ct (j + 1)) → ys' x = ys x) (ei : ∀ x, (kd (j + 1) = 5 → x ≠ j * 4 + ct (j + 1)) → yi' x = yi x) (eq : ∀ x, (kd (j + 1) = 6 → x ≠ j * 4 + ct (j + 1)) → yq' x = yq x) (ev : ∀ x, (kd (j + 1) = 6 → x ≠ j * 4 + ct (j + 1)) → yv' x = yv x) (ef : ∀ x, (kd (j + 1) = 6 → x ≠ (j + 1) * 4 + ct (j + 1)) → fd' x = fd x)
    (n4 : kd (j + 1) = 4 → ys' (j * 8 + ct (j + 1)) = c) (n5 : kd (j + 1) = 5 → yi' (j * 4 + ct (j + 1)) = c ∧ ∃ w, 1 ≤ w ∧ w ≤ nv ∧ c = nI w) (n6 : kd (j + 1) = 6 → yq' (j * 4 + ct (j + 1)) = c ∧ fd' ((j + 1) * 4 + ct (j + 1)) = yv' (j * 4 + ct (j + 1)) ∧ ∃ w, 1 ≤ w ∧ w ≤ nv ∧ yv' (j * 4 + ct (j + 1)) = nI w) :
    vl_R nv kd (fu ct (j + 1) (ct (j + 1) + 1)) xk (upd am (j + 1) (nI (ct (j + 1) + 1))) (upd pt ((j + 1) * 8 + ct (j + 1)) c) fd' yk yn (upd yc j (nI (ct (j + 1) + 1))) ys' yi' yq' yv' := by
  refine ⟨h.1, fun i hi => ?_⟩
  by_cases e : i = j
  · subst e
    obtain ⟨g1, g2, g3, g4, g5, g6, g7, g8, g9, g10, g11, g12, g13⟩ := h.2 i hi
    rw [fu_s, pk_us, pk_us]
    refine ⟨g1, g2, by omega, g4, g5, rfl, fun z => by omega, fun _ => rfl, fun z => by omega, fun z => by have := h4 z; omega, fun z a ha => ?_, fun z a ha => ?_, fun z a ha => ?_⟩
    · by_cases w : a = ct (i + 1)
      · subst w
        rw [pk_us, n4 z]
      · rw [pk_un (by omega), es _ (fun _ => by omega)]
        exact g11 z a (by omega)
    · by_cases w : a = ct (i + 1)
      · subst w
        rw [pk_us, (n5 z).1]
        exact ⟨rfl, (n5 z).2⟩
      · rw [pk_un (by omega), ei _ (fun _ => by omega)]
        exact g12 z a (by omega)
    · by_cases w : a = ct (i + 1)
      · subst w
        rw [pk_us, (n6 z).1]
        exact ⟨rfl, (n6 z).2⟩
      · rw [pk_un (by omega), eq _ (fun _ => by omega), ev _ (fun _ => by omega), ef _ (fun _ => by omega)]
        exact g13 z a (by omega)
  · obtain ⟨g1, g2, g3, g4, g5, g6, g7, g8, g9, g10, g11, g12, g13⟩ := h.2 i hi
    simp only [fu_n (show i + 1 ≠ j + 1 from by omega), pk_un (show i + 1 ≠ j + 1 from by omega), pk_un e]
    refine ⟨g1, g2, g3, g4, g5, g6, g7, g8, g9, g10, fun z a ha => ?_, fun z a ha => ?_, fun z a ha => ?_⟩
    · rw [pk_un (by omega), es _ (fun _ => by omega)]
      exact g11 z a ha
    · have := g10 (by omega)
      rw [pk_un (by omega), ei _ (fun y => by have := h4 (by omega); omega)]
      exact g12 z a ha
    · have := g10 (by omega)
      rw [pk_un (by omega), eq _ (fun y => by have := h4 (by omega); omega), ev _ (fun y => by have := h4 (by omega); omega), ef _ (fun y => by have := h4 (by omega); omega)]
      exact g13 z a ha
/-- a field of the map j + 1 set anew -/
theorem vl_set (h : vl_R nv kd ct xk am pt fd yk yn yc ys yi yq yv) {j a : Nat} (hj : j < nv) (hk : kd (j + 1) = 6) (ha : a < ct (j + 1)) {w : Nat} (h1 : 1 ≤ w) (h2 : w ≤ nv) :
    vl_R nv kd ct xk am pt (upd fd ((j + 1) * 4 + a) (nI w)) yk yn yc ys yi yq (upd yv (j * 4 + a) (nI w)) := by
  refine ⟨h.1, fun i hi => ?_⟩
  obtain ⟨g1, g2, g3, g4, g5, g6, g7, g8, g9, g10, g11, g12, g13⟩ := h.2 i hi
  have hj4 := (h.2 j hj).2.2.2.2.2.2.2.2.2.1 (by omega)
  refine ⟨g1, g2, g3, g4, g5, g6, g7, g8, g9, g10, g11, g12, fun z b hb => ?_⟩
  have := g10 (by omega)
  obtain ⟨x1, x2, x3⟩ := g13 z b hb
  by_cases e : (i + 1) * 4 + b = (j + 1) * 4 + a
  · rw [e, show i * 4 + b = j * 4 + a from by omega, pk_us, pk_us]
    rw [show i * 4 + b = j * 4 + a from by omega] at x1
    exact ⟨x1, rfl, w, h1, h2, rfl⟩
  · rw [pk_un e, pk_un (by omega)]
    exact ⟨x1, x2, x3⟩
end VL
end LLV
end
section
section LLVM
section AD
variable {f_openMarkLength f_closeMarkLength f_openCount f_compileFrom f_compileTo f_valueCount f_outCap f_outCount f_frameCount f_valueTextLength f_renderAt f_renderTo f_returnAt f_finished f_overflowed : Int32} {a_text a_cellKind a_cellName a_tagEnd a_sectionEnd a_textLength a_slotStatus a_slotError a_openMark a_closeMark a_openTags a_valueKind a_amount a_parts a_fieldValues a_out a_frameValue a_frameList a_frameNext a_frameBody a_valueText : Nat → Int32}
theorem xl_add {post : Int32 → SX → Prop} {j m cp : Nat} {c : Int32} (hj : j < 32) (ham : a_amount (j + 1) = nI m) (hm : m ≤ 8) (hc : cp ≤ 8) (hf : m < cp → post 0 (f_openMarkLength, f_closeMarkLength, f_openCount, f_compileFrom, f_compileTo, f_valueCount, f_outCap, f_outCount, f_frameCount, f_valueTextLength, f_renderAt, f_renderTo, f_returnAt, f_finished, f_overflowed, a_text, a_cellKind, a_cellName, a_tagEnd, a_sectionEnd, a_textLength, a_slotStatus, a_slotError, a_openMark, a_closeMark, a_openTags, a_valueKind, upd a_amount (j + 1) (nI (m + 1)), upd a_parts ((j + 1) * 8 + m) c, a_fieldValues, a_out, a_frameValue, a_frameList, a_frameNext, a_frameBody, a_valueText)) (hn : cp ≤ m → post (-2) (f_openMarkLength, f_closeMarkLength, f_openCount, f_compileFrom, f_compileTo, f_valueCount, f_outCap, f_outCount, f_frameCount, f_valueTextLength, f_renderAt, f_renderTo, f_returnAt, f_finished, f_overflowed, a_text, a_cellKind, a_cellName, a_tagEnd, a_sectionEnd, a_textLength, a_slotStatus, a_slotError, a_openMark, a_closeMark, a_openTags, a_valueKind, a_amount, a_parts, a_fieldValues, a_out, a_frameValue, a_frameList, a_frameNext, a_frameBody, a_valueText)) : wpX_addPart post (f_openMarkLength, f_closeMarkLength, f_openCount, f_compileFrom, f_compileTo, f_valueCount, f_outCap, f_outCount, f_frameCount, f_valueTextLength, f_renderAt, f_renderTo, f_returnAt, f_finished, f_overflowed, a_text, a_cellKind, a_cellName, a_tagEnd, a_sectionEnd, a_textLength, a_slotStatus, a_slotError, a_openMark, a_closeMark, a_openTags, a_valueKind, a_amount, a_parts, a_fieldValues, a_out, a_frameValue, a_frameList, a_frameNext, a_frameBody, a_valueText) (nI (j + 1)) c (nI cp) := by
  unfold wpX_addPart
  refine ⟨vp_in_nI (by omega) (by omega), ?_⟩
  rw [nI_clamp (by omega), ham, la_m8, nI_add]
  refine pk_lt m cp (fun z => ⟨vp_in_nI (by omega) (by omega), vp_in_nI (by omega) (by omega), nm_r ?_ ⟨vp_in_nI (by omega) (by omega), vp_in_nI (by omega) (by omega), nm_r ?_ (hf z)⟩⟩) hn
  · rw [nI_clamp (by omega)]
  · rw [nI_1]
theorem xl_fi {post : Int32 → Prop} {j m : Nat} {key : Int32} (hj : j < 32) (ham : a_amount (j + 1) = nI m) (hm : m ≤ 8) : ∀ d i, i + d = m → (∀ a, i ≤ a → a < m → a_parts ((j + 1) * 8 + a) = key → (∀ b, i ≤ b → b < a → a_parts ((j + 1) * 8 + b) ≠ key) → post (nI a)) → ((∀ a, i ≤ a → a < m → a_parts ((j + 1) * 8 + a) ≠ key) → post (-1)) → wX_fieldIndex_2 post (nI (j + 1)) key f_openMarkLength f_closeMarkLength f_openCount f_compileFrom f_compileTo f_valueCount f_outCap f_outCount f_frameCount f_valueTextLength f_renderAt f_renderTo f_returnAt f_finished f_overflowed a_text a_cellKind a_cellName a_tagEnd a_sectionEnd a_textLength a_slotStatus a_slotError a_openMark a_closeMark a_openTags a_valueKind a_amount a_parts a_fieldValues a_out a_frameValue a_frameList a_frameNext a_frameBody a_valueText (d + 1) (nI i) := by
  intro d
  induction d with
  | zero =>
    intro i hi h1 h0
    refine ⟨vp_in_nI (by omega) (by omega), ?_⟩
    rw [nI_clamp (by omega), ham]
    exact br_t (nI_le (by omega) (by omega)) (h0 (fun a a1 a2 => absurd a2 (by omega)))
  | succ d ih =>
    intro i hi h1 h0
    refine ⟨vp_in_nI (by omega) (by omega), ?_⟩
    rw [nI_clamp (by omega), ham, la_m8, nI_add, nI_clamp (by omega)]
    refine br_f (nI_ge (by omega) (by omega)) ⟨vp_in_nI (by omega) (by omega), ?_⟩
    by_cases z : a_parts ((j + 1) * 8 + i) = key
    · exact br_t z (h1 i (Nat.le_refl _) (by omega) z (fun b b1 b2 => absurd b2 (by omega)))
    · refine br_f z (nm_r (nI_1 _) (ih (i + 1) (by omega) (fun a a1 a2 a3 a4 => h1 a (by omega) a2 a3 (fun b b1 b2 => ?_)) (fun g => h0 (fun a a1 a2 => ?_))))
      · by_cases e : b = i
        · rw [e]; exact z
        · exact a4 b (by omega) b2
      · by_cases e : a = i
        · rw [e]; exact z
        · exact g a (by omega) a2
/-- where the key stands in the map j + 1 -/
theorem xl_field {post : Int32 → Prop} {j m : Nat} {key : Int32} (hj : j < 32) (ham : a_amount (j + 1) = nI m) (hm : m ≤ 8) (h1 : ∀ a, a < m → a_parts ((j + 1) * 8 + a) = key → (∀ b, b < a → a_parts ((j + 1) * 8 + b) ≠ key) → post (nI a)) (h0 : (∀ a, a < m → a_parts ((j + 1) * 8 + a) ≠ key) → post (-1)) : wpX_fieldIndex post (f_openMarkLength, f_closeMarkLength, f_openCount, f_compileFrom, f_compileTo, f_valueCount, f_outCap, f_outCount, f_frameCount, f_valueTextLength, f_renderAt, f_renderTo, f_returnAt, f_finished, f_overflowed, a_text, a_cellKind, a_cellName, a_tagEnd, a_sectionEnd, a_textLength, a_slotStatus, a_slotError, a_openMark, a_closeMark, a_openTags, a_valueKind, a_amount, a_parts, a_fieldValues, a_out, a_frameValue, a_frameList, a_frameNext, a_frameBody, a_valueText) (nI (j + 1)) key :=
  ⟨_, xl_fi hj ham hm m 0 (by omega) (fun a _ a2 a3 a4 => h1 a a2 a3 (fun b b1 => a4 b (by omega) b1)) (fun g => h0 (fun a a1 => g a (by omega) a1))⟩
end AD
theorem i_vc_newValue {k : Nat} {u : SX} {v : SY} (I : i_Rel k u v) (hk : k + 4 ≤ 2049) (v1 : Int32) (v2 : Int32) : wpX_newValue (fun r u' => wpY_newValue (fun r' v' => r' = r ∧ i_Rel (k + 4) u' v') v v1 v2) u v1 v2 := by
  refine ir_el (P := fun u v => wpX_newValue (fun r u' => wpY_newValue (fun r' v' => r' = r ∧ i_Rel (k + 4) u' v') v v1 v2) u v1 v2) I ?_
  intro f_openMarkLength f_closeMarkLength f_openCount f_compileFrom f_compileTo f_frameCount f_valueTextLength f_renderAt f_renderTo f_returnAt f_finished f_overflowed a_text a_cellKind a_cellName a_tagEnd a_sectionEnd a_textLength a_slotStatus a_slotError a_openMark a_closeMark a_openTags a_valueKind a_amount a_parts a_fieldValues a_out a_frameValue a_frameList a_frameNext a_frameBody a_valueText g_ol g_cl g_newOl g_newCl g_tagName g_parseErr g_openCount g_fn g_cn b_removed b_tType b_tA b_tB b_tName b_tMatch b_tCount b_oc b_cc b_newO b_newC b_openName b_openTok b_vKind b_vNum b_vCnt b_vStr b_vItem b_vKey b_vVal b_fv b_cKind b_cSlot b_cTok b_cVal b_cIdx b_dig ln nv oc cap kd ct hc1 hc2 hoc hT hV
  unfold wpX_newValue wpY_newValue
  have hnv := hV.1
  by_cases a1 : v1 < 1
  · exact br_t a1 (br_t a1 ⟨rfl, ir_mk hc1 hc2 hoc hT hV⟩)
  · by_cases a6 : v1 ≤ 6
    · obtain ⟨q, q1, q6, rfl⟩ : ∃ q, 1 ≤ q ∧ q ≤ 6 ∧ v1 = nI q := by
        rcases id_ix v1 (nv := 6) (by omega) with (z | z) | ⟨j, hj, e⟩
        · exact absurd z a1
        · exact absurd a6 (Int32.not_le.mpr z)
        · exact ⟨j + 1, by omega, by omega, e⟩
      refine br_f a1 (br_t a6 (pk_lt nv 32 (fun hn => ?_) (fun hn => ?_)))
      · refine nm_r (nI_1 nv) ⟨vp_in_nI (by omega) (by omega), nm_r (by rw [nI_clamp (by omega)]) ?_⟩
        refine pk_eq q 3 (fun z => ⟨vp_in_nI (by omega) (by omega), nm_r (by rw [nI_clamp (by omega)]) ?_⟩) (fun z => ⟨vp_in_nI (by omega) (by omega), nm_r (by rw [nI_clamp (by omega)]) ?_⟩)
        · refine br_f a1 (br_t a6 (br_t (nI_lt (b := 32) hn (by decide)) ⟨vp_in_nI hn (by omega), nm_r (by rw [nI_clamp (by omega)]) (br_t (by rw [z]; rfl) ⟨vp_in_nI hn (by omega), nm_r (by rw [nI_clamp (by omega)]) ⟨vp_in_nI hn (by omega), nm_r (by rw [nI_clamp (by omega)]) (nm_r (nI_1 nv) ⟨rfl, ?_⟩)⟩⟩)⟩))
          exact ir_mk hc1 hc2 hoc hT (vl_new hV hn q1 q6 v2 (fun y => absurd z y))
        · refine br_f a1 (br_t a6 (br_t (nI_lt (b := 32) hn (by decide)) ⟨vp_in_nI hn (by omega), nm_r (by rw [nI_clamp (by omega)]) (br_f (fun y => z (la_im (b := 3) y (by omega) (by omega))) ⟨vp_in_nI hn (by omega), nm_r (by rw [nI_clamp (by omega)]) ⟨vp_in_nI hn (by omega), nm_r (by rw [nI_clamp (by omega)]) (nm_r (nI_1 nv) ⟨rfl, ?_⟩)⟩⟩)⟩))
          exact ir_mk hc1 hc2 hoc hT (vl_new hV hn q1 q6 0 (fun _ => rfl))
      · exact br_f a1 (br_t a6 (br_f (nI_nlt (b := 32) hn (by omega)) ⟨rfl, ir_mk hc1 hc2 hoc hT hV⟩))
    · exact br_f a1 (br_f a6 (br_f a1 (br_f a6 ⟨rfl, ir_mk hc1 hc2 hoc hT hV⟩)))
theorem i_vc_appendChar {k : Nat} {u : SX} {v : SY} (I : i_Rel k u v) (hk : k + 4 ≤ 2049) (v1 : Int32) (v2 : Int32) : wpX_appendChar (fun r u' => wpY_appendChar (fun r' v' => r' = r ∧ i_Rel (k + 4) u' v') v v1 v2) u v1 v2 := by
  refine ir_el (P := fun u v => wpX_appendChar (fun r u' => wpY_appendChar (fun r' v' => r' = r ∧ i_Rel (k + 4) u' v') v v1 v2) u v1 v2) I ?_
  intro f_openMarkLength f_closeMarkLength f_openCount f_compileFrom f_compileTo f_frameCount f_valueTextLength f_renderAt f_renderTo f_returnAt f_finished f_overflowed a_text a_cellKind a_cellName a_tagEnd a_sectionEnd a_textLength a_slotStatus a_slotError a_openMark a_closeMark a_openTags a_valueKind a_amount a_parts a_fieldValues a_out a_frameValue a_frameList a_frameNext a_frameBody a_valueText g_ol g_cl g_newOl g_newCl g_tagName g_parseErr g_openCount g_fn g_cn b_removed b_tType b_tA b_tB b_tName b_tMatch b_tCount b_oc b_cc b_newO b_newC b_openName b_openTok b_vKind b_vNum b_vCnt b_vStr b_vItem b_vKey b_vVal b_fv b_cKind b_cSlot b_cTok b_cVal b_cIdx b_dig ln nv oc cap kd ct hc1 hc2 hoc hT hV
  unfold wpX_appendChar wpY_appendChar
  have hnv := hV.1
  rcases id_ix v1 hnv with h | ⟨j, hj, rfl⟩
  · exact xl_kout h (br_f (by decide) (yl_kout h (br_f (by decide) ⟨rfl, ir_mk hc1 hc2 hoc hT hV⟩)))
  · obtain ⟨g1, g2, g3, g4, g5, g6, g7, g8, g9, g10, g11, g12, g13⟩ := hV.2 j hj
    by_cases k4 : kd (j + 1) = 4
    · rw [k4] at g4 g5
      refine xl_kin hnv hj g4 (br_t rfl (xl_prin (fun c1 c2 => br_f (by decide) ?_) (fun c0 => br_t rfl ?_)))
      · refine xl_add (cp := 8) (by omega) (g8 (by omega)) g3 (by omega) (fun z => ?_) (fun z => ?_)
        · refine yl_kin hnv hj g5 (br_t rfl (br_f (Int32.not_lt.mpr c1) (br_t c2 ?_)))
          rw [nI_pred, nI_clamp (by omega), g6, la_m8, nI_add]
          refine ⟨vp_in_nI (by omega) (by omega), br_t (nI_lt (b := 8) z (by decide)) ⟨vp_in_nI (by omega) (by omega), vp_in_nI (by omega) (by omega), nm_r (by rw [nI_clamp (by omega)]) ⟨vp_in_nI (by omega) (by omega), vp_in_nI (by omega) (by omega), nm_r (by rw [nI_1]) ⟨rfl, ?_⟩⟩⟩⟩
          exact ir_mk hc1 hc2 hoc hT (vl_add hV hj v2 (by omega) z (fun y => by omega) (fun x hx => pk_un (hx k4)) (fun x hx => rfl) (fun x hx => rfl) (fun x hx => rfl) (fun x hx => rfl) (fun _ => pk_us) (fun y => by omega) (fun y => by omega))
        · refine yl_kin hnv hj g5 (br_t rfl (br_f (Int32.not_lt.mpr c1) (br_t c2 ?_)))
          rw [nI_pred, nI_clamp (by omega), g6]
          exact ⟨vp_in_nI (by omega) (by omega), br_f (nI_nlt (b := 8) z (by omega)) ⟨rfl, ir_mk hc1 hc2 hoc hT hV⟩⟩
      · refine yl_kin hnv hj g5 (br_t rfl (br_c (fun z => ⟨rfl, ir_mk hc1 hc2 hoc hT hV⟩) (fun z => br_f (fun y => c0 ⟨Int32.not_lt.mp z, y⟩) ⟨rfl, ir_mk hc1 hc2 hoc hT hV⟩)))
    · have n4 : ¬ nI (kd (j + 1)) = 4 := fun y => k4 (la_im (b := 4) y (by omega) (by omega))
      exact xl_kin hnv hj g4 (br_f n4 (yl_kin hnv hj g5 (br_f n4 ⟨rfl, ir_mk hc1 hc2 hoc hT hV⟩)))
theorem i_vc_addItem {k : Nat} {u : SX} {v : SY} (I : i_Rel k u v) (hk : k + 4 ≤ 2049) (v1 : Int32) (v2 : Int32) : wpX_addItem (fun r u' => wpY_addItem (fun r' v' => r' = r ∧ i_Rel (k + 4) u' v') v v1 v2) u v1 v2 := by
  refine ir_el (P := fun u v => wpX_addItem (fun r u' => wpY_addItem (fun r' v' => r' = r ∧ i_Rel (k + 4) u' v') v v1 v2) u v1 v2) I ?_
  intro f_openMarkLength f_closeMarkLength f_openCount f_compileFrom f_compileTo f_frameCount f_valueTextLength f_renderAt f_renderTo f_returnAt f_finished f_overflowed a_text a_cellKind a_cellName a_tagEnd a_sectionEnd a_textLength a_slotStatus a_slotError a_openMark a_closeMark a_openTags a_valueKind a_amount a_parts a_fieldValues a_out a_frameValue a_frameList a_frameNext a_frameBody a_valueText g_ol g_cl g_newOl g_newCl g_tagName g_parseErr g_openCount g_fn g_cn b_removed b_tType b_tA b_tB b_tName b_tMatch b_tCount b_oc b_cc b_newO b_newC b_openName b_openTok b_vKind b_vNum b_vCnt b_vStr b_vItem b_vKey b_vVal b_fv b_cKind b_cSlot b_cTok b_cVal b_cIdx b_dig ln nv oc cap kd ct hc1 hc2 hoc hT hV
  unfold wpX_addItem wpY_addItem
  have hnv := hV.1
  rcases id_ix v1 hnv with h | ⟨j, hj, rfl⟩
  · exact xl_kout h (br_f (by decide) (yl_kout h (br_f (by decide) ⟨rfl, ir_mk hc1 hc2 hoc hT hV⟩)))
  · obtain ⟨g1, g2, g3, g4, g5, g6, g7, g8, g9, g10, g11, g12, g13⟩ := hV.2 j hj
    by_cases k5 : kd (j + 1) = 5
    · rw [k5] at g4 g5
      rcases id_ix v2 hnv with h | ⟨i, hi, rfl⟩
      · refine xl_kin hnv hj g4 (br_t rfl (xl_vout h (br_t rfl (yl_kin hnv hj g5 (br_t rfl (br_c (fun _ => ⟨rfl, ir_mk hc1 hc2 hoc hT hV⟩) (fun z => br_f ?_ ⟨rfl, ir_mk hc1 hc2 hoc hT hV⟩)))))))
        rcases h with h | h
        · exact absurd h z
        · exact Int32.not_le.mpr h
      · obtain ⟨i1, i2, _, i4, _⟩ := hV.2 i hi
        have a1 : ¬ nI (i + 1) < 1 := nI_nlt (b := 1) (by omega) (by omega)
        have a2 : nI (i + 1) ≤ nI nv := nI_le (by omega) (by omega)
        refine xl_kin hnv hj g4 (br_t rfl (xl_vin hnv hi i4 i1 i2 (br_f (by decide) ?_)))
        refine xl_add (cp := 4) (by omega) (g8 (by omega)) g3 (by omega) (fun z => ?_) (fun z => ?_)
        · refine yl_kin hnv hj g5 (br_t rfl (br_f a1 (br_t a2 ?_)))
          rw [nI_pred, nI_clamp (by omega), g6, la_m4, nI_add]
          refine ⟨vp_in_nI (by omega) (by omega), br_t (nI_lt (b := 4) z (by decide)) ⟨vp_in_nI (by omega) (by omega), vp_in_nI (by omega) (by omega), nm_r (by rw [nI_clamp (by omega)]) ⟨vp_in_nI (by omega) (by omega), vp_in_nI (by omega) (by omega), nm_r (by rw [nI_1]) ⟨rfl, ?_⟩⟩⟩⟩
          exact ir_mk hc1 hc2 hoc hT (vl_add hV hj (nI (i + 1)) (by omega) (by omega) (fun y => z) (fun x hx => rfl) (fun x hx => pk_un (hx k5)) (fun x hx => rfl) (fun x hx => rfl) (fun x hx => rfl) (fun y => by omega) (fun _ => ⟨pk_us, i + 1, by omega, by omega, rfl⟩) (fun y => by omega))
        · refine yl_kin hnv hj g5 (br_t rfl (br_f a1 (br_t a2 ?_)))
          rw [nI_pred, nI_clamp (by omega), g6]
          exact ⟨vp_in_nI (by omega) (by omega), br_f (nI_nlt (b := 4) z (by omega)) ⟨rfl, ir_mk hc1 hc2 hoc hT hV⟩⟩
    · have n5 : ¬ nI (kd (j + 1)) = 5 := fun y => k5 (la_im (b := 5) y (by omega) (by omega))
      exact xl_kin hnv hj g4 (br_f n5 (yl_kin hnv hj g5 (br_f n5 ⟨rfl, ir_mk hc1 hc2 hoc hT hV⟩)))
end LLVM
end
section
section LLVN
def vf_s (pt fd : Nat → Int32) (v : Nat) (key : Int32) : Nat → Nat → Int32
  | 0, _ => 0
  | d + 1, i => if pt (v * 8 + i) = key then fd (v * 4 + i) else vf_s pt fd v key d (i + 1)
theorem vf_su {pt fd : Nat → Int32} {v : Nat} {key : Int32} {d i : Nat} : vf_s pt fd v key (d + 1) i = if pt (v * 8 + i) = key then fd (v * 4 + i) else vf_s pt fd v key d (i + 1) := rfl
theorem vf_hit {pt fd : Nat → Int32} {v : Nat} {key : Int32} {a : Nat} (ha : pt (v * 8 + a) = key) : ∀ d i, i ≤ a → a < i + d → (∀ b, i ≤ b → b < a → pt (v * 8 + b) ≠ key) → vf_s pt fd v key d i = fd (v * 4 + a) := by
  intro d
  induction d with
  | zero => intro i h1 h2; omega
  | succ d ih =>
    intro i h1 h2 h3
    rw [vf_su]
    by_cases e : i = a
    · rw [e, if_pos ha]
    · rw [if_neg (h3 i (Nat.le_refl _) (by omega))]
      exact ih (i + 1) (by omega) (by omega) (fun b b1 b2 => h3 b (by omega) b2)
theorem vf_miss {pt fd : Nat → Int32} {v : Nat} {key : Int32} : ∀ d i, (∀ b, i ≤ b → b < i + d → pt (v * 8 + b) ≠ key) → vf_s pt fd v key d i = 0 := by
  intro d
  induction d with
  | zero => intro i h; rfl
  | succ d ih =>
    intro i h
    rw [vf_su, if_neg (h i (Nat.le_refl _) (by omega))]
    exact ih (i + 1) (fun b b1 b2 => h b (by omega) (by omega))
theorem vf_cs {pt fd : Nat → Int32} {v : Nat} {key : Int32} {P : Int32 → Prop} (h0 : P 0) : ∀ d i, (∀ b, i ≤ b → b < i + d → P (fd (v * 4 + b))) → P (vf_s pt fd v key d i) := by
  intro d
  induction d with
  | zero => intro i h; exact h0
  | succ d ih =>
    intro i h
    rw [vf_su]
    split
    · exact h i (Nat.le_refl _) (by omega)
    · exact ih (i + 1) (fun b b1 b2 => h b (by omega) (by omega))
/-- the field key of the value v -/
def vf_f (kd ct : Nat → Nat) (pt fd : Nat → Int32) (key : Int32) (v : Nat) : Int32 := if kd v = 6 then vf_s pt fd v key (ct v) 0 else 0
section FO
variable {f_openMarkLength f_closeMarkLength f_openCount f_compileFrom f_compileTo f_valueCount f_outCap f_outCount f_frameCount f_valueTextLength f_renderAt f_renderTo f_returnAt f_finished f_overflowed : Int32} {a_text a_cellKind a_cellName a_tagEnd a_sectionEnd a_textLength a_slotStatus a_slotError a_openMark a_closeMark a_openTags a_valueKind a_amount a_parts a_fieldValues a_out a_frameValue a_frameList a_frameNext a_frameBody a_valueText : Nat → Int32} {g_ol g_cl g_newOl g_newCl g_tagName g_parseErr g_openCount g_nVals g_outLen g_outCap g_fn g_cn : Int32} {b_text b_len b_stat b_errPos b_removed b_tType b_tA b_tB b_tName b_tMatch b_tCount b_oc b_cc b_newO b_newC b_openName b_openTok b_vKind b_vNum b_vCnt b_vStr b_vItem b_vKey b_vVal b_out b_fv b_cKind b_cSlot b_cTok b_cVal b_cIdx b_dig : Nat → Int32} {nv : Nat} {kd ct : Nat → Nat}
theorem vf_r {key : Int32} (hV : vl_R nv kd ct a_valueKind a_amount a_parts a_fieldValues b_vKind b_vNum b_vCnt b_vStr b_vItem b_vKey b_vVal) {j : Nat} (hj : j < nv) : vf_f kd ct a_parts a_fieldValues key (j + 1) = 0 ∨ ∃ w, 1 ≤ w ∧ w ≤ nv ∧ vf_f kd ct a_parts a_fieldValues key (j + 1) = nI w := by
  unfold vf_f
  by_cases z : kd (j + 1) = 6
  · rw [if_pos z]
    refine vf_cs (P := fun x => x = 0 ∨ ∃ w, 1 ≤ w ∧ w ≤ nv ∧ x = nI w) (Or.inl rfl) _ _ (fun b b1 b2 => Or.inr ?_)
    obtain ⟨_, e, w, w1, w2, w3⟩ := (hV.2 j hj).2.2.2.2.2.2.2.2.2.2.2.2 z b (by omega)
    exact ⟨w, w1, w2, e.trans w3⟩
  · rw [if_neg z]
    exact Or.inl rfl
theorem xl_fof {post : Int32 → Prop} {key : Int32} (hV : vl_R nv kd ct a_valueKind a_amount a_parts a_fieldValues b_vKind b_vNum b_vCnt b_vStr b_vItem b_vKey b_vVal) {j : Nat} (hj : j < nv) (h : post (vf_f kd ct a_parts a_fieldValues key (j + 1))) : wpX_fieldOf post (f_openMarkLength, f_closeMarkLength, f_openCount, f_compileFrom, f_compileTo, nI nv, f_outCap, f_outCount, f_frameCount, f_valueTextLength, f_renderAt, f_renderTo, f_returnAt, f_finished, f_overflowed, a_text, a_cellKind, a_cellName, a_tagEnd, a_sectionEnd, a_textLength, a_slotStatus, a_slotError, a_openMark, a_closeMark, a_openTags, a_valueKind, a_amount, a_parts, a_fieldValues, a_out, a_frameValue, a_frameList, a_frameNext, a_frameBody, a_valueText) (nI (j + 1)) key := by
  obtain ⟨g1, g2, g3, g4, g5, g6, g7, g8, g9, g10, g11, g12, g13⟩ := hV.2 j hj
  have hnv := hV.1
  unfold wpX_fieldOf
  unfold vf_f at h
  by_cases z : kd (j + 1) = 6
  · rw [if_pos z] at h
    rw [z] at g4
    have c4 := g10 (by omega)
    refine xl_kin hnv hj g4 (br_t rfl (xl_field (by omega) (g8 (by omega)) g3 (fun a a1 a2 a3 => ?_) (fun a0 => ?_)))
    · rw [vf_hit a2 (ct (j + 1)) 0 (by omega) (by omega) (fun b _ b2 => a3 b b2)] at h
      refine br_f (la_n1 (by omega)) ?_
      rw [la_m4, nI_add, nI_clamp (by omega)]
      exact ⟨vp_in_nI (by omega) (by omega), h⟩
    · rw [vf_miss (ct (j + 1)) 0 (fun b _ b2 => a0 b (by omega))] at h
      exact br_t rfl h
  · rw [if_neg z] at h
    exact xl_kin hnv hj g4 (br_f (fun y => z (la_im (b := 6) y (by omega) (by omega))) h)
theorem yl_fo {post : Int32 → Prop} {key : Int32} {j m : Nat} (hj : j < 32) (hm : m ≤ 4) (hc : b_vCnt j = nI m) (he : ∀ i, i < m → a_parts ((j + 1) * 8 + i) = b_vKey (j * 4 + i) ∧ a_fieldValues ((j + 1) * 4 + i) = b_vVal (j * 4 + i)) : ∀ d i, i + d = m → post (vf_s a_parts a_fieldValues (j + 1) key d i) → wY_fieldOf_14 post (nI (j + 1)) key g_ol g_cl g_newOl g_newCl g_tagName g_parseErr g_openCount g_nVals g_outLen g_outCap g_fn g_cn b_text b_len b_stat b_errPos b_removed b_tType b_tA b_tB b_tName b_tMatch b_tCount b_oc b_cc b_newO b_newC b_openName b_openTok b_vKind b_vNum b_vCnt b_vStr b_vItem b_vKey b_vVal b_out b_fv b_cKind b_cSlot b_cTok b_cVal b_cIdx b_dig (d + 1) (nI i) := by
  intro d
  induction d with
  | zero =>
    intro i hi h
    unfold wY_fieldOf_14
    rw [nI_pred, nI_clamp (by omega), hc]
    exact ⟨vp_in_nI (by omega) (by omega), br_t (nI_le (by omega) (by omega)) h⟩
  | succ d ih =>
    intro i hi h
    rw [vf_su] at h
    unfold wY_fieldOf_14
    rw [nI_pred, nI_clamp (by omega), hc, la_m4, nI_add, nI_clamp (by omega), ← (he i (by omega)).1, ← (he i (by omega)).2]
    refine ⟨vp_in_nI (by omega) (by omega), br_f (nI_ge (by omega) (by omega)) ⟨vp_in_nI (by omega) (by omega), ?_⟩⟩
    by_cases z : a_parts ((j + 1) * 8 + i) = key
    · rw [if_pos z] at h
      exact br_t z ⟨vp_in_nI (by omega) (by omega), h⟩
    · rw [if_neg z] at h
      exact br_f z (nm_r (nI_1 _) (ih (i + 1) (by omega) h))
theorem yl_fof {post : Int32 → Prop} {key : Int32} (hV : vl_R nv kd ct a_valueKind a_amount a_parts a_fieldValues b_vKind b_vNum b_vCnt b_vStr b_vItem b_vKey b_vVal) {j : Nat} (hj : j < nv) (h : post (vf_f kd ct a_parts a_fieldValues key (j + 1))) : wpY_fieldOf post (g_ol, g_cl, g_newOl, g_newCl, g_tagName, g_parseErr, g_openCount, nI nv, g_outLen, g_outCap, g_fn, g_cn, b_text, b_len, b_stat, b_errPos, b_removed, b_tType, b_tA, b_tB, b_tName, b_tMatch, b_tCount, b_oc, b_cc, b_newO, b_newC, b_openName, b_openTok, b_vKind, b_vNum, b_vCnt, b_vStr, b_vItem, b_vKey, b_vVal, b_out, b_fv, b_cKind, b_cSlot, b_cTok, b_cVal, b_cIdx, b_dig) (nI (j + 1)) key := by
  obtain ⟨g1, g2, g3, g4, g5, g6, g7, g8, g9, g10, g11, g12, g13⟩ := hV.2 j hj
  have hnv := hV.1
  unfold wpY_fieldOf
  unfold vf_f at h
  by_cases z : kd (j + 1) = 6
  · rw [if_pos z] at h
    rw [z] at g5
    exact yl_kin hnv hj g5 (br_t rfl ⟨_, yl_fo (by omega) (g10 (by omega)) g6 (fun i hi => ⟨(g13 z i hi).1, (g13 z i hi).2.1⟩) (ct (j + 1)) 0 (by omega) h⟩)
  · rw [if_neg z] at h
    exact yl_kin hnv hj g5 (br_f (fun y => z (la_im (b := 6) y (by omega) (by omega))) h)
theorem yl_sfT {post : Int32 → SY → Prop} {key val : Int32} {j m a : Nat} (hj : j < 32) (hm : m ≤ 4) (hc : b_vCnt j = nI m) (ha : a < m) (hk : b_vKey (j * 4 + a) = key) (h : post 0 (g_ol, g_cl, g_newOl, g_newCl, g_tagName, g_parseErr, g_openCount, g_nVals, g_outLen, g_outCap, g_fn, g_cn, b_text, b_len, b_stat, b_errPos, b_removed, b_tType, b_tA, b_tB, b_tName, b_tMatch, b_tCount, b_oc, b_cc, b_newO, b_newC, b_openName, b_openTok, b_vKind, b_vNum, b_vCnt, b_vStr, b_vItem, b_vKey, upd b_vVal (j * 4 + a) val, b_out, b_fv, b_cKind, b_cSlot, b_cTok, b_cVal, b_cIdx, b_dig)) : ∀ d i, i + d = a → (∀ b, i ≤ b → b < a → b_vKey (j * 4 + b) ≠ key) → wY_setField_51 post (nI (j + 1)) key val (nI (j * 4)) g_ol g_cl g_newOl g_newCl g_tagName g_parseErr g_openCount g_nVals g_outLen g_outCap g_fn g_cn b_text b_len b_stat b_errPos b_removed b_tType b_tA b_tB b_tName b_tMatch b_tCount b_oc b_cc b_newO b_newC b_openName b_openTok b_vKind b_vNum b_vCnt b_vStr b_vItem b_vKey b_vVal b_out b_fv b_cKind b_cSlot b_cTok b_cVal b_cIdx b_dig (d + 1) (nI i) := by
  intro d
  induction d with
  | zero =>
    intro i hi g
    have e : i = a := by omega
    subst e
    unfold wY_setField_51
    rw [nI_pred, nI_clamp (by omega), hc, nI_add, nI_add, nI_clamp (by omega), nI_clamp (by omega)]
    exact ⟨vp_in_nI (by omega) (by omega), br_f (nI_ge (by omega) (by omega)) ⟨vp_in_nI (by omega) (by omega), br_t hk ⟨vp_in_nI (by omega) (by omega), nm_e h⟩⟩⟩
  | succ d ih =>
    intro i hi g
    unfold wY_setField_51
    rw [nI_pred, nI_clamp (by omega), hc, nI_add, nI_add, nI_clamp (by omega), nI_clamp (by omega)]
    exact ⟨vp_in_nI (by omega) (by omega), br_f (nI_ge (by omega) (by omega)) ⟨vp_in_nI (by omega) (by omega), br_f (g i (Nat.le_refl _) (by omega)) (nm_r (nI_1 _) (ih (i + 1) (by omega) (fun b b1 b2 => g b (by omega) b2)))⟩⟩
theorem yl_sfF {post : Int32 → SY → Prop} {key val : Int32} {j m : Nat} (hj : j < 32) (hm : m ≤ 4) (hc : b_vCnt j = nI m) (h : m < 4 → post 0 (g_ol, g_cl, g_newOl, g_newCl, g_tagName, g_parseErr, g_openCount, g_nVals, g_outLen, g_outCap, g_fn, g_cn, b_text, b_len, b_stat, b_errPos, b_removed, b_tType, b_tA, b_tB, b_tName, b_tMatch, b_tCount, b_oc, b_cc, b_newO, b_newC, b_openName, b_openTok, b_vKind, b_vNum, upd b_vCnt j (nI (m + 1)), b_vStr, b_vItem, upd b_vKey (j * 4 + m) key, upd b_vVal (j * 4 + m) val, b_out, b_fv, b_cKind, b_cSlot, b_cTok, b_cVal, b_cIdx, b_dig)) (h' : 4 ≤ m → post (-2) (g_ol, g_cl, g_newOl, g_newCl, g_tagName, g_parseErr, g_openCount, g_nVals, g_outLen, g_outCap, g_fn, g_cn, b_text, b_len, b_stat, b_errPos, b_removed, b_tType, b_tA, b_tB, b_tName, b_tMatch, b_tCount, b_oc, b_cc, b_newO, b_newC, b_openName, b_openTok, b_vKind, b_vNum, b_vCnt, b_vStr, b_vItem, b_vKey, b_vVal, b_out, b_fv, b_cKind, b_cSlot, b_cTok, b_cVal, b_cIdx, b_dig)) : ∀ d i, i + d = m → (∀ b, i ≤ b → b < m → b_vKey (j * 4 + b) ≠ key) → wY_setField_51 post (nI (j + 1)) key val (nI (j * 4)) g_ol g_cl g_newOl g_newCl g_tagName g_parseErr g_openCount g_nVals g_outLen g_outCap g_fn g_cn b_text b_len b_stat b_errPos b_removed b_tType b_tA b_tB b_tName b_tMatch b_tCount b_oc b_cc b_newO b_newC b_openName b_openTok b_vKind b_vNum b_vCnt b_vStr b_vItem b_vKey b_vVal b_out b_fv b_cKind b_cSlot b_cTok b_cVal b_cIdx b_dig (d + 1) (nI i) := by
  intro d
  induction d with
  | zero =>
    intro i hi g
    unfold wY_setField_51
    rw [nI_pred, nI_clamp (by omega), hc, nI_add, nI_clamp (by omega)]
    refine ⟨vp_in_nI (by omega) (by omega), br_t (nI_le (by omega) (by omega)) ⟨vp_in_nI (by omega) (by omega), pk_lt m 4 (fun z => ⟨vp_in_nI (by omega) (by omega), vp_in_nI (by omega) (by omega), nm_e ⟨vp_in_nI (by omega) (by omega), vp_in_nI (by omega) (by omega), nm_e ⟨vp_in_nI (by omega) (by omega), vp_in_nI (by omega) (by omega), nm_r (by rw [nI_1]) (h z)⟩⟩⟩) h'⟩⟩
  | succ d ih =>
    intro i hi g
    unfold wY_setField_51
    rw [nI_pred, nI_clamp (by omega), hc, nI_add, nI_add, nI_clamp (by omega), nI_clamp (by omega)]
    exact ⟨vp_in_nI (by omega) (by omega), br_f (nI_ge (by omega) (by omega)) ⟨vp_in_nI (by omega) (by omega), br_f (g i (Nat.le_refl _) (by omega)) (nm_r (nI_1 _) (ih (i + 1) (by omega) (fun b b1 b2 => g b (by omega) b2)))⟩⟩
end FO
theorem i_vc_fieldOf {k : Nat} {u : SX} {v : SY} (I : i_Rel k u v) (hk : k + 4 ≤ 2049) (v1 : Int32) (v2 : Int32) : wpX_fieldOf (fun r => wpY_fieldOf (fun r' => r' = r ∧ i_Rel (k + 4) u v) v v1 v2) u v1 v2 := by
  refine ir_el (P := fun u v => wpX_fieldOf (fun r => wpY_fieldOf (fun r' => r' = r ∧ i_Rel (k + 4) u v) v v1 v2) u v1 v2) I ?_
  intro f_openMarkLength f_closeMarkLength f_openCount f_compileFrom f_compileTo f_frameCount f_valueTextLength f_renderAt f_renderTo f_returnAt f_finished f_overflowed a_text a_cellKind a_cellName a_tagEnd a_sectionEnd a_textLength a_slotStatus a_slotError a_openMark a_closeMark a_openTags a_valueKind a_amount a_parts a_fieldValues a_out a_frameValue a_frameList a_frameNext a_frameBody a_valueText g_ol g_cl g_newOl g_newCl g_tagName g_parseErr g_openCount g_fn g_cn b_removed b_tType b_tA b_tB b_tName b_tMatch b_tCount b_oc b_cc b_newO b_newC b_openName b_openTok b_vKind b_vNum b_vCnt b_vStr b_vItem b_vKey b_vVal b_fv b_cKind b_cSlot b_cTok b_cVal b_cIdx b_dig ln nv oc cap kd ct hc1 hc2 hoc hT hV
  have hnv := hV.1
  rcases id_ix v1 hnv with h | ⟨j, hj, rfl⟩
  · unfold wpX_fieldOf wpY_fieldOf
    exact xl_kout h (br_f (by decide) (yl_kout h (br_f (by decide) ⟨rfl, ir_mk hc1 hc2 hoc hT hV⟩)))
  · exact xl_fof hV hj (yl_fof hV hj ⟨rfl, ir_mk hc1 hc2 hoc hT hV⟩)
theorem i_vc_setField {k : Nat} {u : SX} {v : SY} (I : i_Rel k u v) (hk : k + 4 ≤ 2049) (v1 : Int32) (v2 : Int32) (v3 : Int32) : wpX_setField (fun r u' => wpY_setField (fun r' v' => r' = r ∧ i_Rel (k + 4) u' v') v v1 v2 v3) u v1 v2 v3 := by
  refine ir_el (P := fun u v => wpX_setField (fun r u' => wpY_setField (fun r' v' => r' = r ∧ i_Rel (k + 4) u' v') v v1 v2 v3) u v1 v2 v3) I ?_
  intro f_openMarkLength f_closeMarkLength f_openCount f_compileFrom f_compileTo f_frameCount f_valueTextLength f_renderAt f_renderTo f_returnAt f_finished f_overflowed a_text a_cellKind a_cellName a_tagEnd a_sectionEnd a_textLength a_slotStatus a_slotError a_openMark a_closeMark a_openTags a_valueKind a_amount a_parts a_fieldValues a_out a_frameValue a_frameList a_frameNext a_frameBody a_valueText g_ol g_cl g_newOl g_newCl g_tagName g_parseErr g_openCount g_fn g_cn b_removed b_tType b_tA b_tB b_tName b_tMatch b_tCount b_oc b_cc b_newO b_newC b_openName b_openTok b_vKind b_vNum b_vCnt b_vStr b_vItem b_vKey b_vVal b_fv b_cKind b_cSlot b_cTok b_cVal b_cIdx b_dig ln nv oc cap kd ct hc1 hc2 hoc hT hV
  unfold wpX_setField wpY_setField
  have hnv := hV.1
  rcases id_ix v1 hnv with h | ⟨j, hj, rfl⟩
  · exact xl_kout h (br_f (by decide) (yl_kout h (br_f (by decide) ⟨rfl, ir_mk hc1 hc2 hoc hT hV⟩)))
  · obtain ⟨g1, g2, g3, g4, g5, g6, g7, g8, g9, g10, g11, g12, g13⟩ := hV.2 j hj
    by_cases k6 : kd (j + 1) = 6
    · rw [k6] at g4 g5
      have c4 := g10 (by omega)
      refine xl_kin hnv hj g4 (br_t rfl (xl_let (fun c1 c2 => br_f (by decide) ?_) (fun c0 => br_t rfl (yl_kin hnv hj g5 (br_t rfl (br_c (fun z => ⟨rfl, ir_mk hc1 hc2 hoc hT hV⟩) (fun z => br_f (fun y => c0 ⟨Int32.not_lt.mp z, y⟩) ⟨rfl, ir_mk hc1 hc2 hoc hT hV⟩)))))))
      rcases id_ix v3 hnv with h | ⟨i, hi, rfl⟩
      · refine xl_vout h (br_t rfl (yl_kin hnv hj g5 (br_t rfl (br_f (Int32.not_lt.mpr c1) (br_t c2 (br_c (fun _ => ⟨rfl, ir_mk hc1 hc2 hoc hT hV⟩) (fun z => br_f ?_ ⟨rfl, ir_mk hc1 hc2 hoc hT hV⟩)))))))
        rcases h with h | h
        · exact absurd h z
        · exact Int32.not_le.mpr h
      · obtain ⟨i1, i2, _, i4, _⟩ := hV.2 i hi
        have a1 : ¬ nI (i + 1) < 1 := nI_nlt (b := 1) (by omega) (by omega)
        have a2 : nI (i + 1) ≤ nI nv := nI_le (by omega) (by omega)
        have e4 : (nI (j + 1) - 1) * 4 = nI (j * 4) := by rw [nI_pred, la_m4]
        refine xl_vin hnv hi i4 i1 i2 (br_f (by decide) (xl_field (by omega) (g8 (by omega)) g3 (fun a b1 b2 b3 => br_f (la_n1 (by omega)) ?_) (fun b0 => br_t rfl ?_)))
        · unfold wX_setField_67
          rw [la_m4, nI_add, nI_clamp (by omega)]
          refine ⟨vp_in_nI (by omega) (by omega), nm_e (yl_kin hnv hj g5 (br_t rfl (br_f (Int32.not_lt.mpr c1) (br_t c2 (br_f a1 (br_t a2 (nm_r e4 ⟨_, yl_sfT (by omega) c4 g6 b1 ?hk ⟨rfl, ?hr⟩ a 0 (by omega) (fun b _ x2 => ?hb)⟩)))))))⟩
          case hk => rw [← (g13 k6 a b1).1]; exact b2
          case hr => exact ir_mk hc1 hc2 hoc hT (vl_set hV hj k6 b1 (by omega) (by omega))
          case hb => rw [← (g13 k6 b (by omega)).1]; exact b3 b x2
        · refine ⟨vp_in_nI (by omega) (by omega), nm_r (e' := nI (ct (j + 1))) (by rw [nI_clamp (by omega)]; exact g8 (by omega)) ?_⟩
          have miss : ∀ b, 0 ≤ b → b < ct (j + 1) → b_vKey (j * 4 + b) ≠ v2 := fun b _ x2 => by
            rw [← (g13 k6 b x2).1]; exact b0 b x2
          refine xl_add (cp := 4) (by omega) (g8 (by omega)) g3 (by omega) (fun z => br_t rfl ?_) (fun z => br_f (by decide) ?_)
          · unfold wX_setField_67
            rw [la_m4, nI_add, nI_clamp (by omega)]
            refine ⟨vp_in_nI (by omega) (by omega), nm_e (yl_kin hnv hj g5 (br_t rfl (br_f (Int32.not_lt.mpr c1) (br_t c2 (br_f a1 (br_t a2 (nm_r e4 ⟨_, yl_sfF (by omega) c4 g6 (fun _ => ⟨rfl, ?_⟩) (fun y => absurd y (by omega)) (ct (j + 1)) 0 (by omega) miss⟩)))))))⟩
            exact ir_mk hc1 hc2 hoc hT (vl_add hV hj v2 (by omega) (by omega) (fun y => z) (fun x hx => rfl) (fun x hx => rfl) (fun x hx => pk_un (hx k6)) (fun x hx => pk_un (hx k6)) (fun x hx => pk_un (hx k6)) (fun y => by omega) (fun y => by omega) (fun _ => ⟨pk_us, by rw [pk_us, pk_us], i + 1, by omega, by omega, pk_us⟩))
          · exact yl_kin hnv hj g5 (br_t rfl (br_f (Int32.not_lt.mpr c1) (br_t c2 (br_f a1 (br_t a2 (nm_r e4 ⟨_, yl_sfF (by omega) c4 g6 (fun y => absurd y (by omega)) (fun _ => ⟨rfl, ir_mk hc1 hc2 hoc hT hV⟩) (ct (j + 1)) 0 (by omega) miss⟩))))))
    · have n6 : ¬ nI (kd (j + 1)) = 6 := fun y => k6 (la_im (b := 6) y (by omega) (by omega))
      exact xl_kin hnv hj g4 (br_f n6 (yl_kin hnv hj g5 (br_f n6 ⟨rfl, ir_mk hc1 hc2 hoc hT hV⟩)))
end LLVN
end
section
section LLTX
theorem irT_chg {ln : Nat → Nat} {tx tl ss K N E G tx' : Nat → Int32} (h : ir_T ln tx tl ss K N E G) {s n' : Nat} (hs : s < 4) (hn : n' ≤ 96) (hr : ∀ j, 0 ≤ tx' j ∧ tx' j ≤ 126) (ho : ∀ s' c, s' ≠ s → c < 96 → tx' (s' * 96 + c) = tx (s' * 96 + c)) : ir_T (fu ln s n') tx' (upd tl s (nI n')) (upd ss s (-7)) K N E G := by
  refine ⟨fun s' h' => ?_, hr, fun s' h' z => ?_⟩
  · by_cases e : s' = s
    · rw [e, fu_s, pk_us]; exact ⟨hn, rfl⟩
    · rw [fu_n e, pk_un e]; exact h.1 s' h'
  · by_cases e : s' = s
    · rw [e, pk_us] at z; exact absurd z (by decide)
    · rw [pk_un e] at z
      rw [fu_n e]
      exact cp_cg (h.1 s' h').1 (h.2.2 s' h' z) (fun c hc => ⟨ho s' c e hc, rfl, rfl, rfl, rfl⟩)
theorem ud_self {f : Nat → Int32} {k : Nat} {x : Int32} (h : f k = x) : upd f k x = f := by
  funext j
  by_cases e : j = k
  · rw [e, pk_us, h]
  · rw [pk_un e]
def pc_f (p : Int32) (i : Nat) : Int32 := ((p.toUInt32 >>> ((8 * nI i).toUInt32 &&& Int32.toUInt32 31)).toInt32) &&& 255
def pc_n (g : Nat → Int32) : Nat → Nat → Nat
  | 0, i => i
  | d + 1, i => if g i = 0 then i else pc_n g d (i + 1)
theorem pc_nu {g : Nat → Int32} {d i : Nat} : pc_n g (d + 1) i = if g i = 0 then i else pc_n g d (i + 1) := rfl
theorem pc_nb {g : Nat → Int32} : ∀ d i, i ≤ pc_n g d i ∧ pc_n g d i ≤ i + d := by
  intro d
  induction d with
  | zero => intro i; exact ⟨Nat.le_refl _, Nat.le_refl _⟩
  | succ d ih =>
    intro i
    rw [pc_nu]
    have := ih (i + 1)
    split <;> omega
def pc_t (c : Int32) : Prop := c = 10 ∨ (32 ≤ c ∧ c ≤ 126)
section XX
variable {f_openMarkLength f_closeMarkLength f_openCount f_compileFrom f_compileTo f_valueCount f_outCap f_outCount f_frameCount f_valueTextLength f_renderAt f_renderTo f_returnAt f_finished f_overflowed : Int32} {a_text a_cellKind a_cellName a_tagEnd a_sectionEnd a_textLength a_slotStatus a_slotError a_openMark a_closeMark a_openTags a_valueKind a_amount a_parts a_fieldValues a_out a_frameValue a_frameList a_frameNext a_frameBody a_valueText : Nat → Int32}
theorem xl_pch {post : Int32 → Prop} {p : Int32} {i : Nat} (h : post (pc_f p i)) : wpX_packedChar post (f_openMarkLength, f_closeMarkLength, f_openCount, f_compileFrom, f_compileTo, f_valueCount, f_outCap, f_outCount, f_frameCount, f_valueTextLength, f_renderAt, f_renderTo, f_returnAt, f_finished, f_overflowed, a_text, a_cellKind, a_cellName, a_tagEnd, a_sectionEnd, a_textLength, a_slotStatus, a_slotError, a_openMark, a_closeMark, a_openTags, a_valueKind, a_amount, a_parts, a_fieldValues, a_out, a_frameValue, a_frameList, a_frameNext, a_frameBody, a_valueText) p (nI i) := h
theorem xl_pcn {post : Int32 → Prop} {p : Int32} : ∀ d i, i + d = 4 → post (nI (pc_n (pc_f p) d i)) → wX_packedCount_2 post p f_openMarkLength f_closeMarkLength f_openCount f_compileFrom f_compileTo f_valueCount f_outCap f_outCount f_frameCount f_valueTextLength f_renderAt f_renderTo f_returnAt f_finished f_overflowed a_text a_cellKind a_cellName a_tagEnd a_sectionEnd a_textLength a_slotStatus a_slotError a_openMark a_closeMark a_openTags a_valueKind a_amount a_parts a_fieldValues a_out a_frameValue a_frameList a_frameNext a_frameBody a_valueText (d + 1) (nI i) := by
  intro d
  induction d with
  | zero =>
    intro i hi h
    have e : i = 4 := by omega
    subst e
    exact br_t (nI_le (a := 4) (b := 4) (by omega) (by decide)) h
  | succ d ih =>
    intro i hi h
    rw [pc_nu] at h
    refine br_f (nI_ge (b := 4) (by omega) (by decide)) (xl_pch ?_)
    by_cases z : pc_f p i = 0
    · rw [if_pos z] at h
      exact br_t z h
    · rw [if_neg z] at h
      exact br_f z (nm_r (nI_1 _) (ih (i + 1) (by omega) h))
theorem xl_tc {post : Int32 → Prop} {c : Int32} (h1 : pc_t c → post 1) (h0 : ¬ pc_t c → post 0) : wpX_isTextChar post (f_openMarkLength, f_closeMarkLength, f_openCount, f_compileFrom, f_compileTo, f_valueCount, f_outCap, f_outCount, f_frameCount, f_valueTextLength, f_renderAt, f_renderTo, f_returnAt, f_finished, f_overflowed, a_text, a_cellKind, a_cellName, a_tagEnd, a_sectionEnd, a_textLength, a_slotStatus, a_slotError, a_openMark, a_closeMark, a_openTags, a_valueKind, a_amount, a_parts, a_fieldValues, a_out, a_frameValue, a_frameList, a_frameNext, a_frameBody, a_valueText) c := by
  unfold wpX_isTextChar
  refine br_c (fun z => h1 (Or.inl z)) (fun z => xl_prin (fun a b => br_f (by decide) (h1 (Or.inr ⟨a, b⟩))) (fun a => br_t rfl (h0 ?_)))
  rintro (y | y)
  · exact z y
  · exact a y
theorem xl_19T {post : Int32 → SX → Prop} {p x1 : Int32} {m : Nat} (hm : m ≤ 4) (hg : ∀ b, b < m → pc_t (pc_f p b)) (h : wX_putChars_19 post x1 p (nI m) f_openMarkLength f_closeMarkLength f_openCount f_compileFrom f_compileTo f_valueCount f_outCap f_outCount f_frameCount f_valueTextLength f_renderAt f_renderTo f_returnAt f_finished f_overflowed a_text a_cellKind a_cellName a_tagEnd a_sectionEnd a_textLength a_slotStatus a_slotError a_openMark a_closeMark a_openTags a_valueKind a_amount a_parts a_fieldValues a_out a_frameValue a_frameList a_frameNext a_frameBody a_valueText 1 (nI m)) : ∀ d i, i + d = m → wX_putChars_19 post x1 p (nI m) f_openMarkLength f_closeMarkLength f_openCount f_compileFrom f_compileTo f_valueCount f_outCap f_outCount f_frameCount f_valueTextLength f_renderAt f_renderTo f_returnAt f_finished f_overflowed a_text a_cellKind a_cellName a_tagEnd a_sectionEnd a_textLength a_slotStatus a_slotError a_openMark a_closeMark a_openTags a_valueKind a_amount a_parts a_fieldValues a_out a_frameValue a_frameList a_frameNext a_frameBody a_valueText (d + 1) (nI i) := by
  intro d
  induction d with
  | zero =>
    intro i hi
    have e : i = m := by omega
    subst e
    exact h
  | succ d ih =>
    intro i hi
    exact br_f (nI_ge (by omega) (by omega)) (xl_pch (xl_tc (fun _ => br_f (by decide) (nm_r (nI_1 _) (ih (i + 1) (by omega)))) (fun z => absurd (hg i (by omega)) z)))
theorem xl_19F {post : Int32 → SX → Prop} {p x1 : Int32} {m : Nat} (hm : m ≤ 4) (h : post (-1) (f_openMarkLength, f_closeMarkLength, f_openCount, f_compileFrom, f_compileTo, f_valueCount, f_outCap, f_outCount, f_frameCount, f_valueTextLength, f_renderAt, f_renderTo, f_returnAt, f_finished, f_overflowed, a_text, a_cellKind, a_cellName, a_tagEnd, a_sectionEnd, a_textLength, a_slotStatus, a_slotError, a_openMark, a_closeMark, a_openTags, a_valueKind, a_amount, a_parts, a_fieldValues, a_out, a_frameValue, a_frameList, a_frameNext, a_frameBody, a_valueText)) : ∀ d i, i + d = m → (∃ b, i ≤ b ∧ b < m ∧ ¬ pc_t (pc_f p b)) → wX_putChars_19 post x1 p (nI m) f_openMarkLength f_closeMarkLength f_openCount f_compileFrom f_compileTo f_valueCount f_outCap f_outCount f_frameCount f_valueTextLength f_renderAt f_renderTo f_returnAt f_finished f_overflowed a_text a_cellKind a_cellName a_tagEnd a_sectionEnd a_textLength a_slotStatus a_slotError a_openMark a_closeMark a_openTags a_valueKind a_amount a_parts a_fieldValues a_out a_frameValue a_frameList a_frameNext a_frameBody a_valueText (d + 1) (nI i) := by
  intro d
  induction d with
  | zero => intro i hi ⟨b, b1, b2, _⟩; omega
  | succ d ih =>
    intro i hi ⟨b, b1, b2, b3⟩
    refine br_f (nI_ge (by omega) (by omega)) (xl_pch (xl_tc (fun z => br_f (by decide) (nm_r (nI_1 _) (ih (i + 1) (by omega) ⟨b, ?_, b2, b3⟩))) (fun z => br_t rfl h)))
    by_cases e : b = i
    · rw [e] at b3; exact absurd z b3
    · omega
theorem xl_chg {post : SX → Prop} {s : Nat} {x : Int32} (hs : s < 4) (h : post (f_openMarkLength, f_closeMarkLength, f_openCount, f_compileFrom, f_compileTo, f_valueCount, f_outCap, f_outCount, f_frameCount, f_valueTextLength, f_renderAt, f_renderTo, f_returnAt, f_finished, f_overflowed, a_text, a_cellKind, a_cellName, a_tagEnd, a_sectionEnd, upd a_textLength s x, upd a_slotStatus s (-7), upd a_slotError s (-1), a_openMark, a_closeMark, a_openTags, a_valueKind, a_amount, a_parts, a_fieldValues, a_out, a_frameValue, a_frameList, a_frameNext, a_frameBody, a_valueText)) : wpX_changeLength post (f_openMarkLength, f_closeMarkLength, f_openCount, f_compileFrom, f_compileTo, f_valueCount, f_outCap, f_outCount, f_frameCount, f_valueTextLength, f_renderAt, f_renderTo, f_returnAt, f_finished, f_overflowed, a_text, a_cellKind, a_cellName, a_tagEnd, a_sectionEnd, a_textLength, a_slotStatus, a_slotError, a_openMark, a_closeMark, a_openTags, a_valueKind, a_amount, a_parts, a_fieldValues, a_out, a_frameValue, a_frameList, a_frameNext, a_frameBody, a_valueText) (nI s) x := by
  unfold wpX_changeLength
  have e : (nI s).toNatClampNeg = s := nI_clamp (by omega)
  refine ⟨vp_in_nI hs (by omega), nm_r (by rw [e]) ⟨vp_in_nI hs (by omega), nm_r (by rw [e]) ⟨vp_in_nI hs (by omega), nm_r (by rw [e]) h⟩⟩⟩
theorem xl_83 {post : Int32 → SX → Prop} {s n m : Nat} {p : Int32} (hs : s < 4) (hl : a_textLength s = nI n) (hn : n + m ≤ 96) (h : post (nI m) (f_openMarkLength, f_closeMarkLength, f_openCount, f_compileFrom, f_compileTo, f_valueCount, f_outCap, f_outCount, f_frameCount, f_valueTextLength, f_renderAt, f_renderTo, f_returnAt, f_finished, f_overflowed, wr_f a_text (pc_f p) (s * 96 + n) m, a_cellKind, a_cellName, a_tagEnd, a_sectionEnd, upd a_textLength s (nI (n + m)), upd a_slotStatus s (-7), upd a_slotError s (-1), a_openMark, a_closeMark, a_openTags, a_valueKind, a_amount, a_parts, a_fieldValues, a_out, a_frameValue, a_frameList, a_frameNext, a_frameBody, a_valueText)) : ∀ d i, i + d = m → wX_putChars_83 post (nI s) p (nI m) (nI (s * 96 + n)) f_openMarkLength f_closeMarkLength f_openCount f_compileFrom f_compileTo f_valueCount f_outCap f_outCount f_frameCount f_valueTextLength f_renderAt f_renderTo f_returnAt f_finished f_overflowed (d + 1) (nI i) (wr_f a_text (pc_f p) (s * 96 + n) i) a_cellKind a_cellName a_tagEnd a_sectionEnd a_textLength a_slotStatus a_slotError a_openMark a_closeMark a_openTags a_valueKind a_amount a_parts a_fieldValues a_out a_frameValue a_frameList a_frameNext a_frameBody a_valueText := by
  intro d
  induction d with
  | zero =>
    intro i hi
    have e : i = m := by omega
    subst e
    unfold wX_putChars_83
    rw [nI_clamp (show s < 2 ^ 31 from by omega), hl, nI_add]
    exact br_t (nI_le (by omega) (by omega)) ⟨vp_in_nI hs (by omega), xl_chg hs h⟩
  | succ d ih =>
    intro i hi
    refine br_f (nI_ge (by omega) (by omega)) (xl_pch ?_)
    refine ⟨by rw [nI_add]; exact vp_in_nI (by omega) (by omega), nm_r ?_ (nm_r (nI_1 _) (ih (i + 1) (by omega)))⟩
    rw [nI_add, nI_clamp (by omega)]
    exact wr_s
end XX
section YY
variable {g_ol g_cl g_newOl g_newCl g_tagName g_parseErr g_openCount g_nVals g_outLen g_outCap g_fn g_cn : Int32} {b_text b_len b_stat b_errPos b_removed b_tType b_tA b_tB b_tName b_tMatch b_tCount b_oc b_cc b_newO b_newC b_openName b_openTok b_vKind b_vNum b_vCnt b_vStr b_vItem b_vKey b_vVal b_out b_fv b_cKind b_cSlot b_cTok b_cVal b_cIdx b_dig : Nat → Int32}
theorem yl_16T {post : Int32 → SY → Prop} {p x1 : Int32} {m : Nat} (h : wY_putChars_75 post x1 p (nI m) g_ol g_cl g_newOl g_newCl g_tagName g_parseErr g_openCount g_nVals g_outLen g_outCap g_fn g_cn b_text b_len b_stat b_errPos b_removed b_tType b_tA b_tB b_tName b_tMatch b_tCount b_oc b_cc b_newO b_newC b_openName b_openTok b_vKind b_vNum b_vCnt b_vStr b_vItem b_vKey b_vVal b_out b_fv b_cKind b_cSlot b_cTok b_cVal b_cIdx b_dig) : ∀ d i, i + d = 4 → pc_n (pc_f p) d i = m → (∀ b, i ≤ b → b < m → pc_t (pc_f p b)) → wY_putChars_16 post x1 p g_ol g_cl g_newOl g_newCl g_tagName g_parseErr g_openCount g_nVals g_outLen g_outCap g_fn g_cn b_text b_len b_stat b_errPos b_removed b_tType b_tA b_tB b_tName b_tMatch b_tCount b_oc b_cc b_newO b_newC b_openName b_openTok b_vKind b_vNum b_vCnt b_vStr b_vItem b_vKey b_vVal b_out b_fv b_cKind b_cSlot b_cTok b_cVal b_cIdx b_dig (d + 1) (nI i) (nI i) := by
  intro d
  induction d with
  | zero =>
    intro i hi hm hg
    have e : i = m := hm
    subst e
    exact br_t (nI_le (a := 4) (by omega) (by omega)) h
  | succ d ih =>
    intro i hi hm hg
    rw [pc_nu] at hm
    refine br_f (nI_ge (b := 4) (by omega) (by decide)) (nm_r (e' := pc_f p i) rfl ?_)
    by_cases z : pc_f p i = 0
    · rw [if_pos z] at hm
      subst hm
      exact br_t z h
    · rw [if_neg z] at hm
      have hb := pc_nb (g := pc_f p) d (i + 1)
      have r := ih (i + 1) (by omega) hm (fun b b1 b2 => hg b (by omega) b2)
      refine br_f z ?_
      by_cases y : pc_f p i = 10
      · exact br_t y (nm_r (nI_1 _) (nm_r (nI_1 _) r))
      · rcases hg i (Nat.le_refl _) (by omega) with w | w
        · exact absurd w y
        · exact br_f y (br_f (Int32.not_lt.mpr w.1) (br_t w.2 (nm_r (nI_1 _) (nm_r (nI_1 _) r))))
theorem yl_16F {post : Int32 → SY → Prop} {p x1 : Int32} {m : Nat} (h : post (-1) (g_ol, g_cl, g_newOl, g_newCl, g_tagName, g_parseErr, g_openCount, g_nVals, g_outLen, g_outCap, g_fn, g_cn, b_text, b_len, b_stat, b_errPos, b_removed, b_tType, b_tA, b_tB, b_tName, b_tMatch, b_tCount, b_oc, b_cc, b_newO, b_newC, b_openName, b_openTok, b_vKind, b_vNum, b_vCnt, b_vStr, b_vItem, b_vKey, b_vVal, b_out, b_fv, b_cKind, b_cSlot, b_cTok, b_cVal, b_cIdx, b_dig)) : ∀ d i, i + d = 4 → pc_n (pc_f p) d i = m → (∃ b, i ≤ b ∧ b < m ∧ ¬ pc_t (pc_f p b)) → wY_putChars_16 post x1 p g_ol g_cl g_newOl g_newCl g_tagName g_parseErr g_openCount g_nVals g_outLen g_outCap g_fn g_cn b_text b_len b_stat b_errPos b_removed b_tType b_tA b_tB b_tName b_tMatch b_tCount b_oc b_cc b_newO b_newC b_openName b_openTok b_vKind b_vNum b_vCnt b_vStr b_vItem b_vKey b_vVal b_out b_fv b_cKind b_cSlot b_cTok b_cVal b_cIdx b_dig (d + 1) (nI i) (nI i) := by
  intro d
  induction d with
  | zero =>
    intro i hi hm ⟨b, b1, b2, _⟩
    have e : i = m := hm
    omega
  | succ d ih =>
    intro i hi hm ⟨b, b1, b2, b3⟩
    rw [pc_nu] at hm
    refine br_f (nI_ge (b := 4) (by omega) (by decide)) (nm_r (e' := pc_f p i) rfl ?_)
    by_cases z : pc_f p i = 0
    · rw [if_pos z] at hm
      omega
    · rw [if_neg z] at hm
      refine br_f z ?_
      have step : pc_t (pc_f p i) → wY_putChars_16 post x1 p g_ol g_cl g_newOl g_newCl g_tagName g_parseErr g_openCount g_nVals g_outLen g_outCap g_fn g_cn b_text b_len b_stat b_errPos b_removed b_tType b_tA b_tB b_tName b_tMatch b_tCount b_oc b_cc b_newO b_newC b_openName b_openTok b_vKind b_vNum b_vCnt b_vStr b_vItem b_vKey b_vVal b_out b_fv b_cKind b_cSlot b_cTok b_cVal b_cIdx b_dig (d + 1) (nI (i + 1)) (nI (i + 1)) := fun w => ih (i + 1) (by omega) hm ⟨b, by
        by_cases e : b = i
        · rw [e] at b3; exact absurd w b3
        · omega, b2, b3⟩
      by_cases y : pc_f p i = 10
      · exact br_t y (nm_r (nI_1 _) (nm_r (nI_1 _) (step (Or.inl y))))
      · refine br_f y (br_c (fun _ => h) (fun w => br_c (fun w2 => nm_r (nI_1 _) (nm_r (nI_1 _) (step (Or.inr ⟨Int32.not_lt.mp w, w2⟩)))) (fun _ => h)))
theorem yl_100 {post : Int32 → SY → Prop} {s n m : Nat} {p : Int32} (hs : s < 4) (hn : n + m ≤ 96) (h : post (nI m) (g_ol, g_cl, g_newOl, g_newCl, g_tagName, g_parseErr, g_openCount, g_nVals, g_outLen, g_outCap, g_fn, g_cn, wr_f b_text (pc_f p) (s * 96 + n) m, upd b_len s (nI (n + m)), upd b_stat s (-7), upd b_errPos s (-1), b_removed, b_tType, b_tA, b_tB, b_tName, b_tMatch, b_tCount, b_oc, b_cc, b_newO, b_newC, b_openName, b_openTok, b_vKind, b_vNum, b_vCnt, b_vStr, b_vItem, b_vKey, b_vVal, b_out, b_fv, b_cKind, b_cSlot, b_cTok, b_cVal, b_cIdx, b_dig)) : ∀ d i, i + d = m → wY_putChars_100 post (nI s) p (nI m) g_ol g_cl g_newOl g_newCl g_tagName g_parseErr g_openCount g_nVals g_outLen g_outCap g_fn g_cn (d + 1) (nI i) (wr_f b_text (pc_f p) (s * 96 + n) i) (upd b_len s (nI (n + i))) b_stat b_errPos b_removed b_tType b_tA b_tB b_tName b_tMatch b_tCount b_oc b_cc b_newO b_newC b_openName b_openTok b_vKind b_vNum b_vCnt b_vStr b_vItem b_vKey b_vVal b_out b_fv b_cKind b_cSlot b_cTok b_cVal b_cIdx b_dig := by
  have e : (nI s).toNatClampNeg = s := nI_clamp (by omega)
  intro d
  induction d with
  | zero =>
    intro i hi
    have e2 : i = m := by omega
    subst e2
    exact br_t (nI_le (by omega) (by omega)) ⟨vp_in_nI hs (by omega), nm_r (by rw [e]) ⟨vp_in_nI hs (by omega), nm_r (by rw [e]) h⟩⟩
  | succ d ih =>
    intro i hi
    refine br_f (nI_ge (by omega) (by omega)) ⟨vp_in_nI hs (by omega), ?_⟩
    rw [e, pk_us, la_m96, nI_add, nI_clamp (by omega)]
    refine ⟨vp_in_nI (by omega) (by omega), nm_r ?_ ⟨vp_in_nI hs (by omega), vp_in_nI hs (by omega), nm_r ?_ (nm_r (nI_1 _) (ih (i + 1) (by omega)))⟩⟩
    · rw [show s * 96 + (n + i) = s * 96 + n + i from by omega]
      exact wr_s
    · rw [nI_1, fl_uu]
      rfl
end YY
theorem i_vc_clearTemplate {k : Nat} {u : SX} {v : SY} (I : i_Rel k u v) (hk : k + 4 ≤ 2049) (v1 : Int32) : wpX_clearTemplate (fun r u' => wpY_clearTemplate (fun r' v' => r' = r ∧ i_Rel (k + 4) u' v') v v1) u v1 := by
  refine ir_el (P := fun u v => wpX_clearTemplate (fun r u' => wpY_clearTemplate (fun r' v' => r' = r ∧ i_Rel (k + 4) u' v') v v1) u v1) I ?_
  intro f_openMarkLength f_closeMarkLength f_openCount f_compileFrom f_compileTo f_frameCount f_valueTextLength f_renderAt f_renderTo f_returnAt f_finished f_overflowed a_text a_cellKind a_cellName a_tagEnd a_sectionEnd a_textLength a_slotStatus a_slotError a_openMark a_closeMark a_openTags a_valueKind a_amount a_parts a_fieldValues a_out a_frameValue a_frameList a_frameNext a_frameBody a_valueText g_ol g_cl g_newOl g_newCl g_tagName g_parseErr g_openCount g_fn g_cn b_removed b_tType b_tA b_tB b_tName b_tMatch b_tCount b_oc b_cc b_newO b_newC b_openName b_openTok b_vKind b_vNum b_vCnt b_vStr b_vItem b_vKey b_vVal b_fv b_cKind b_cSlot b_cTok b_cVal b_cIdx b_dig ln nv oc cap kd ct hc1 hc2 hoc hT hV
  unfold wpX_clearTemplate wpY_clearTemplate
  rcases pk_ix v1 (n := 4) (by omega) with h | h | ⟨s, hs, rfl⟩
  · exact xl_nslot (Or.inl h) (br_t rfl (br_t h ⟨rfl, ir_mk hc1 hc2 hoc hT hV⟩))
  · exact xl_nslot (Or.inr h) (br_t rfl (br_c (fun _ => ⟨rfl, ir_mk hc1 hc2 hoc hT hV⟩) (fun _ => br_f (fun z => absurd (Int32.le_trans h z) (by decide)) ⟨rfl, ir_mk hc1 hc2 hoc hT hV⟩)))
  · have e : (nI s).toNatClampNeg = s := nI_clamp (by omega)
    refine xl_slot hs (br_f (by decide) (xl_chg hs (br_f (nI_pos (by omega)) (br_t (nI_le (b := 3) (by omega) (by decide)) ⟨vp_in_nI hs (by omega), nm_r (by rw [e]) ⟨vp_in_nI hs (by omega), nm_r (by rw [e]) ⟨vp_in_nI hs (by omega), nm_r (by rw [e]) ⟨rfl, ?_⟩⟩⟩⟩))))
    exact ir_mk hc1 hc2 hoc (irT_chg hT hs (n' := 0) (by omega) hT.2.1 (fun _ _ _ _ => rfl)) hV
theorem i_vc_putChars {k : Nat} {u : SX} {v : SY} (I : i_Rel k u v) (hk : k + 4 ≤ 2049) (v1 : Int32) (v2 : Int32) : wpX_putChars (fun r u' => wpY_putChars (fun r' v' => r' = r ∧ i_Rel (k + 4) u' v') v v1 v2) u v1 v2 := by
  refine ir_el (P := fun u v => wpX_putChars (fun r u' => wpY_putChars (fun r' v' => r' = r ∧ i_Rel (k + 4) u' v') v v1 v2) u v1 v2) I ?_
  intro f_openMarkLength f_closeMarkLength f_openCount f_compileFrom f_compileTo f_frameCount f_valueTextLength f_renderAt f_renderTo f_returnAt f_finished f_overflowed a_text a_cellKind a_cellName a_tagEnd a_sectionEnd a_textLength a_slotStatus a_slotError a_openMark a_closeMark a_openTags a_valueKind a_amount a_parts a_fieldValues a_out a_frameValue a_frameList a_frameNext a_frameBody a_valueText g_ol g_cl g_newOl g_newCl g_tagName g_parseErr g_openCount g_fn g_cn b_removed b_tType b_tA b_tB b_tName b_tMatch b_tCount b_oc b_cc b_newO b_newC b_openName b_openTok b_vKind b_vNum b_vCnt b_vStr b_vItem b_vKey b_vVal b_fv b_cKind b_cSlot b_cTok b_cVal b_cIdx b_dig ln nv oc cap kd ct hc1 hc2 hoc hT hV
  unfold wpX_putChars wpY_putChars
  rcases pk_ix v1 (n := 4) (by omega) with h | h | ⟨s, hs, rfl⟩
  · exact xl_nslot (Or.inl h) (br_t rfl (br_t h ⟨rfl, ir_mk hc1 hc2 hoc hT hV⟩))
  · exact xl_nslot (Or.inr h) (br_t rfl (br_c (fun _ => ⟨rfl, ir_mk hc1 hc2 hoc hT hV⟩) (fun _ => br_f (fun z => absurd (Int32.le_trans h z) (by decide)) ⟨rfl, ir_mk hc1 hc2 hoc hT hV⟩)))
  · have e : (nI s).toNatClampNeg = s := nI_clamp (by omega)
    have hl := hT.1 s hs
    have y0 : ¬ nI s < 0 := nI_pos (by omega)
    have y3 : nI s ≤ 3 := nI_le (b := 3) (by omega) (by decide)
    have hb := pc_nb (g := pc_f v2) 4 0
    obtain ⟨m, hm⟩ : ∃ m, m = pc_n (pc_f v2) 4 0 := ⟨_, rfl⟩
    refine xl_slot hs (br_f (by decide) ⟨_, xl_pcn 4 0 rfl ?_⟩)
    show ∃ n19 : Nat, _
    rw [← hm]
    by_cases hg : ∀ b, b < m → pc_t (pc_f v2 b)
    · refine ⟨_, xl_19T (by omega) hg (br_t (nI_le (Nat.le_refl _) (by omega)) ?_) m 0 (by omega)⟩
      refine pk_eq m 0 (fun z => ?_) (fun z => ⟨vp_in_nI hs (by omega), ?_⟩)
      · refine br_f y0 (br_t y3 ⟨_, yl_16T (m := m) (br_t (by rw [z]; rfl) ⟨rfl, ir_mk hc1 hc2 hoc hT hV⟩) 4 0 rfl hm.symm (fun b _ b2 => hg b b2)⟩)
      · rw [e, hl.2, nI_add]
        refine pk_le (ln s + m) 96 (fun w => xl_tend hs hl.2 ?_) (fun w => ?_)
        · show ∃ n83 : Nat, _
          have r := xl_83 (f_openMarkLength := f_openMarkLength) (f_closeMarkLength := f_closeMarkLength) (f_openCount := f_openCount) (f_compileFrom := f_compileFrom) (f_compileTo := f_compileTo) (f_valueCount := nI nv) (f_outCap := nI cap) (f_outCount := nI oc) (f_frameCount := f_frameCount) (f_valueTextLength := f_valueTextLength) (f_renderAt := f_renderAt) (f_renderTo := f_renderTo) (f_returnAt := f_returnAt) (f_finished := f_finished) (f_overflowed := f_overflowed) (a_text := a_text) (a_cellKind := a_cellKind) (a_cellName := a_cellName) (a_tagEnd := a_tagEnd) (a_sectionEnd := a_sectionEnd) (a_textLength := a_textLength) (a_slotStatus := a_slotStatus) (a_slotError := a_slotError) (a_openMark := a_openMark) (a_closeMark := a_closeMark) (a_openTags := a_openTags) (a_valueKind := a_valueKind) (a_amount := a_amount) (a_parts := a_parts) (a_fieldValues := a_fieldValues) (a_out := a_out) (a_frameValue := a_frameValue) (a_frameList := a_frameList) (a_frameNext := a_frameNext) (a_frameBody := a_frameBody) (a_valueText := a_valueText) (p := v2) (m := m) (n := ln s) hs hl.2 w (post := fun r u' => wpY_putChars (fun r' v' => r' = r ∧ i_Rel (k + 4) u' v') (g_ol, g_cl, g_newOl, g_newCl, g_tagName, g_parseErr, g_openCount, nI nv, nI oc, nI cap, g_fn, g_cn, a_text, a_textLength, a_slotStatus, a_slotError, b_removed, b_tType, b_tA, b_tB, b_tName, b_tMatch, b_tCount, b_oc, b_cc, b_newO, b_newC, b_openName, b_openTok, b_vKind, b_vNum, b_vCnt, b_vStr, b_vItem, b_vKey, b_vVal, a_out, b_fv, b_cKind, b_cSlot, b_cTok, b_cVal, b_cIdx, b_dig) (nI s) v2) ?_ m 0 (by omega)
          · rw [wr_0] at r
            exact ⟨_, r⟩
          · refine br_f y0 (br_t y3 ⟨_, yl_16T (m := m) (br_f (nI_ne0 (by omega) (by omega)) ⟨vp_in_nI hs (by omega), ?_⟩) 4 0 rfl hm.symm (fun b _ b2 => hg b b2)⟩)
            rw [e, hl.2, nI_add]
            have r := yl_100 (g_ol := g_ol) (g_cl := g_cl) (g_newOl := g_newOl) (g_newCl := g_newCl) (g_tagName := g_tagName) (g_parseErr := g_parseErr) (g_openCount := g_openCount) (g_nVals := nI nv) (g_outLen := nI oc) (g_outCap := nI cap) (g_fn := g_fn) (g_cn := g_cn) (b_text := a_text) (b_len := a_textLength) (b_stat := a_slotStatus) (b_errPos := a_slotError) (b_removed := b_removed) (b_tType := b_tType) (b_tA := b_tA) (b_tB := b_tB) (b_tName := b_tName) (b_tMatch := b_tMatch) (b_tCount := b_tCount) (b_oc := b_oc) (b_cc := b_cc) (b_newO := b_newO) (b_newC := b_newC) (b_openName := b_openName) (b_openTok := b_openTok) (b_vKind := b_vKind) (b_vNum := b_vNum) (b_vCnt := b_vCnt) (b_vStr := b_vStr) (b_vItem := b_vItem) (b_vKey := b_vKey) (b_vVal := b_vVal) (b_out := a_out) (b_fv := b_fv) (b_cKind := b_cKind) (b_cSlot := b_cSlot) (b_cTok := b_cTok) (b_cVal := b_cVal) (b_cIdx := b_cIdx) (b_dig := b_dig) (p := v2) (m := m) (n := ln s) (s := s) hs w (post := fun r' v' => r' = nI m ∧ i_Rel (k + 4) (f_openMarkLength, f_closeMarkLength, f_openCount, f_compileFrom, f_compileTo, nI nv, nI cap, nI oc, f_frameCount, f_valueTextLength, f_renderAt, f_renderTo, f_returnAt, f_finished, f_overflowed, wr_f a_text (pc_f v2) (s * 96 + ln s) m, a_cellKind, a_cellName, a_tagEnd, a_sectionEnd, upd a_textLength s (nI (ln s + m)), upd a_slotStatus s (-7), upd a_slotError s (-1), a_openMark, a_closeMark, a_openTags, a_valueKind, a_amount, a_parts, a_fieldValues, a_out, a_frameValue, a_frameList, a_frameNext, a_frameBody, a_valueText) v') ⟨rfl, ?_⟩ m 0 (by omega)
            · have e0 : upd a_textLength s (nI (ln s + 0)) = a_textLength := ud_self hl.2
              rw [wr_0, e0] at r
              exact br_t (nI_le (b := 96) w (by decide)) ⟨_, r⟩
            · refine ir_mk hc1 hc2 hoc (irT_chg hT hs w (fun j => ?_) (fun s' c h1 h2 => wr_out (by omega))) hV
              by_cases q : s * 96 + ln s ≤ j ∧ j < s * 96 + ln s + m
              · rw [wr_in q.1 q.2]
                rcases hg (j - (s * 96 + ln s)) (by omega) with x | x
                · rw [x]; decide
                · exact ⟨Int32.le_trans (by decide) x.1, x.2⟩
              · rw [wr_out (by omega)]; exact hT.2.1 j
        · refine br_f y0 (br_t y3 ⟨_, yl_16T (m := m) (br_f (nI_ne0 (by omega) (by omega)) ⟨vp_in_nI hs (by omega), ?_⟩) 4 0 rfl hm.symm (fun b _ b2 => hg b b2)⟩)
          rw [e, hl.2, nI_add]
          exact br_f (nI_ge (a := 96) w (by omega)) ⟨rfl, ir_mk hc1 hc2 hoc hT hV⟩
    · have hg' : ∃ b, 0 ≤ b ∧ b < m ∧ ¬ pc_t (pc_f v2 b) := by
        apply Classical.byContradiction
        intro q
        apply hg
        intro b hb'
        apply Classical.byContradiction
        intro q2
        exact q ⟨b, by omega, hb', q2⟩
      exact ⟨_, xl_19F (by omega) (br_f y0 (br_t y3 ⟨_, yl_16F ⟨rfl, ir_mk hc1 hc2 hoc hT hV⟩ 4 0 rfl hm.symm hg'⟩)) m 0 (by omega) hg'⟩
end LLTX
end
section
section LLMO
theorem i_vc_valueInfo {k : Nat} {u : SX} {v : SY} (I : i_Rel k u v) (hk : k + 4 ≤ 2049) (v1 : Int32) (v2 : Int32) : wpX_valueInfo (fun r => wpY_valueInfo (fun r' => r' = r ∧ i_Rel (k + 4) u v) v v1 v2) u v1 v2 := by
  refine ir_el (P := fun u v => wpX_valueInfo (fun r => wpY_valueInfo (fun r' => r' = r ∧ i_Rel (k + 4) u v) v v1 v2) u v1 v2) I ?_
  intro f_openMarkLength f_closeMarkLength f_openCount f_compileFrom f_compileTo f_frameCount f_valueTextLength f_renderAt f_renderTo f_returnAt f_finished f_overflowed a_text a_cellKind a_cellName a_tagEnd a_sectionEnd a_textLength a_slotStatus a_slotError a_openMark a_closeMark a_openTags a_valueKind a_amount a_parts a_fieldValues a_out a_frameValue a_frameList a_frameNext a_frameBody a_valueText g_ol g_cl g_newOl g_newCl g_tagName g_parseErr g_openCount g_fn g_cn b_removed b_tType b_tA b_tB b_tName b_tMatch b_tCount b_oc b_cc b_newO b_newC b_openName b_openTok b_vKind b_vNum b_vCnt b_vStr b_vItem b_vKey b_vVal b_fv b_cKind b_cSlot b_cTok b_cVal b_cIdx b_dig ln nv oc cap kd ct hc1 hc2 hoc hT hV
  unfold wpX_valueInfo wpY_valueInfo
  have hnv := hV.1
  rcases id_ix v1 hnv with h | ⟨j, hj, rfl⟩
  · refine xl_kout h ⟨fun z => yl_kout h (br_t z ⟨rfl, ir_mk hc1 hc2 hoc hT hV⟩), fun z => ⟨fun y => br_t rfl (yl_kout h (br_f z (br_t y (br_t rfl ⟨rfl, ir_mk hc1 hc2 hoc hT hV⟩)))), fun y => br_f (by decide) (br_f (by decide) (br_f (by decide) (br_t rfl (yl_kout h (br_f z (br_f y (br_t (by decide) ⟨rfl, ir_mk hc1 hc2 hoc hT hV⟩)))))))⟩⟩
  · obtain ⟨g1, g2, g3, g4, g5, g6, g7, g8, g9, g10, g11, g12, g13⟩ := hV.2 j hj
    have n0 : ¬ nI (kd (j + 1)) = 0 := nI_ne0 (by omega) (by omega)
    refine xl_kin hnv hj g4 ⟨fun z => yl_kin hnv hj g5 (br_t z ⟨rfl, ir_mk hc1 hc2 hoc hT hV⟩), fun z => ⟨fun y => br_f n0 ⟨vp_in_nI (by omega) (by omega), yl_kin hnv hj g5 (br_f z (br_t y (br_f n0 ?_)))⟩, fun y => ?_⟩⟩
    · rw [nI_clamp (by omega), nI_pred, nI_clamp (by omega)]
      refine pk_eq (kd (j + 1)) 3 (fun q3 => ⟨vp_in_nI (by omega) (by omega), (g7 q3).symm, ir_mk hc1 hc2 hoc hT hV⟩) (fun q3 => pk_lt (kd (j + 1)) 4 (fun q4 => ⟨?_, ir_mk hc1 hc2 hoc hT hV⟩) (fun q4 => ⟨vp_in_nI (by omega) (by omega), ?_, ir_mk hc1 hc2 hoc hT hV⟩))
      · rw [g8 q3, g9 q4]; rfl
      · rw [g8 q3, g6]
    · by_cases q4 : 4 ≤ kd (j + 1)
      · have m4 : ¬ nI (kd (j + 1)) < 4 := nI_nlt (b := 4) q4 (by omega)
        have key : wX_valueInfo_50 (fun r => wpY_kindOf (fun r_1 => (v2 = -2 → (fun r' => r' = r ∧ i_Rel (k + 4) (f_openMarkLength, f_closeMarkLength, f_openCount, f_compileFrom, f_compileTo, nI nv, nI cap, nI oc, f_frameCount, f_valueTextLength, f_renderAt, f_renderTo, f_returnAt, f_finished, f_overflowed, a_text, a_cellKind, a_cellName, a_tagEnd, a_sectionEnd, a_textLength, a_slotStatus, a_slotError, a_openMark, a_closeMark, a_openTags, a_valueKind, a_amount, a_parts, a_fieldValues, a_out, a_frameValue, a_frameList, a_frameNext, a_frameBody, a_valueText) (g_ol, g_cl, g_newOl, g_newCl, g_tagName, g_parseErr, g_openCount, nI nv, nI oc, nI cap, g_fn, g_cn, a_text, a_textLength, a_slotStatus, a_slotError, b_removed, b_tType, b_tA, b_tB, b_tName, b_tMatch, b_tCount, b_oc, b_cc, b_newO, b_newC, b_openName, b_openTok, b_vKind, b_vNum, b_vCnt, b_vStr, b_vItem, b_vKey, b_vVal, a_out, b_fv, b_cKind, b_cSlot, b_cTok, b_cVal, b_cIdx, b_dig)) r_1) ∧ (¬ v2 = -2 → (v2 = -1 → (r_1 = 0 → (fun r' => r' = r ∧ i_Rel (k + 4) (f_openMarkLength, f_closeMarkLength, f_openCount, f_compileFrom, f_compileTo, nI nv, nI cap, nI oc, f_frameCount, f_valueTextLength, f_renderAt, f_renderTo, f_returnAt, f_finished, f_overflowed, a_text, a_cellKind, a_cellName, a_tagEnd, a_sectionEnd, a_textLength, a_slotStatus, a_slotError, a_openMark, a_closeMark, a_openTags, a_valueKind, a_amount, a_parts, a_fieldValues, a_out, a_frameValue, a_frameList, a_frameNext, a_frameBody, a_valueText) (g_ol, g_cl, g_newOl, g_newCl, g_tagName, g_parseErr, g_openCount, nI nv, nI oc, nI cap, g_fn, g_cn, a_text, a_textLength, a_slotStatus, a_slotError, b_removed, b_tType, b_tA, b_tB, b_tName, b_tMatch, b_tCount, b_oc, b_cc, b_newO, b_newC, b_openName, b_openTok, b_vKind, b_vNum, b_vCnt, b_vStr, b_vItem, b_vKey, b_vVal, a_out, b_fv, b_cKind, b_cSlot, b_cTok, b_cVal, b_cIdx, b_dig)) (-1)) ∧ (¬ r_1 = 0 → (r_1 = 3 → vp_in (nI (j + 1) - 1) 32 ∧ (fun r' => r' = r ∧ i_Rel (k + 4) (f_openMarkLength, f_closeMarkLength, f_openCount, f_compileFrom, f_compileTo, nI nv, nI cap, nI oc, f_frameCount, f_valueTextLength, f_renderAt, f_renderTo, f_returnAt, f_finished, f_overflowed, a_text, a_cellKind, a_cellName, a_tagEnd, a_sectionEnd, a_textLength, a_slotStatus, a_slotError, a_openMark, a_closeMark, a_openTags, a_valueKind, a_amount, a_parts, a_fieldValues, a_out, a_frameValue, a_frameList, a_frameNext, a_frameBody, a_valueText) (g_ol, g_cl, g_newOl, g_newCl, g_tagName, g_parseErr, g_openCount, nI nv, nI oc, nI cap, g_fn, g_cn, a_text, a_textLength, a_slotStatus, a_slotError, b_removed, b_tType, b_tA, b_tB, b_tName, b_tMatch, b_tCount, b_oc, b_cc, b_newO, b_newC, b_openName, b_openTok, b_vKind, b_vNum, b_vCnt, b_vStr, b_vItem, b_vKey, b_vVal, a_out, b_fv, b_cKind, b_cSlot, b_cTok, b_cVal, b_cIdx, b_dig)) (b_vNum (nI (j + 1) - 1).toNatClampNeg)) ∧ (¬ r_1 = 3 → (r_1 < 4 → (fun r' => r' = r ∧ i_Rel (k + 4) (f_openMarkLength, f_closeMarkLength, f_openCount, f_compileFrom, f_compileTo, nI nv, nI cap, nI oc, f_frameCount, f_valueTextLength, f_renderAt, f_renderTo, f_returnAt, f_finished, f_overflowed, a_text, a_cellKind, a_cellName, a_tagEnd, a_sectionEnd, a_textLength, a_slotStatus, a_slotError, a_openMark, a_closeMark, a_openTags, a_valueKind, a_amount, a_parts, a_fieldValues, a_out, a_frameValue, a_frameList, a_frameNext, a_frameBody, a_valueText) (g_ol, g_cl, g_newOl, g_newCl, g_tagName, g_parseErr, g_openCount, nI nv, nI oc, nI cap, g_fn, g_cn, a_text, a_textLength, a_slotStatus, a_slotError, b_removed, b_tType, b_tA, b_tB, b_tName, b_tMatch, b_tCount, b_oc, b_cc, b_newO, b_newC, b_openName, b_openTok, b_vKind, b_vNum, b_vCnt, b_vStr, b_vItem, b_vKey, b_vVal, a_out, b_fv, b_cKind, b_cSlot, b_cTok, b_cVal, b_cIdx, b_dig)) 0) ∧ (¬ r_1 < 4 → vp_in (nI (j + 1) - 1) 32 ∧ (fun r' => r' = r ∧ i_Rel (k + 4) (f_openMarkLength, f_closeMarkLength, f_openCount, f_compileFrom, f_compileTo, nI nv, nI cap, nI oc, f_frameCount, f_valueTextLength, f_renderAt, f_renderTo, f_returnAt, f_finished, f_overflowed, a_text, a_cellKind, a_cellName, a_tagEnd, a_sectionEnd, a_textLength, a_slotStatus, a_slotError, a_openMark, a_closeMark, a_openTags, a_valueKind, a_amount, a_parts, a_fieldValues, a_out, a_frameValue, a_frameList, a_frameNext, a_frameBody, a_valueText) (g_ol, g_cl, g_newOl, g_newCl, g_tagName, g_parseErr, g_openCount, nI nv, nI oc, nI cap, g_fn, g_cn, a_text, a_textLength, a_slotStatus, a_slotError, b_removed, b_tType, b_tA, b_tB, b_tName, b_tMatch, b_tCount, b_oc, b_cc, b_newO, b_newC, b_openName, b_openTok, b_vKind, b_vNum, b_vCnt, b_vStr, b_vItem, b_vKey, b_vVal, a_out, b_fv, b_cKind, b_cSlot, b_cTok, b_cVal, b_cIdx, b_dig)) (b_vCnt (nI (j + 1) - 1).toNatClampNeg))))) ∧ (¬ v2 = -1 → (r_1 < 4 → (fun r' => r' = r ∧ i_Rel (k + 4) (f_openMarkLength, f_closeMarkLength, f_openCount, f_compileFrom, f_compileTo, nI nv, nI cap, nI oc, f_frameCount, f_valueTextLength, f_renderAt, f_renderTo, f_returnAt, f_finished, f_overflowed, a_text, a_cellKind, a_cellName, a_tagEnd, a_sectionEnd, a_textLength, a_slotStatus, a_slotError, a_openMark, a_closeMark, a_openTags, a_valueKind, a_amount, a_parts, a_fieldValues, a_out, a_frameValue, a_frameList, a_frameNext, a_frameBody, a_valueText) (g_ol, g_cl, g_newOl, g_newCl, g_tagName, g_parseErr, g_openCount, nI nv, nI oc, nI cap, g_fn, g_cn, a_text, a_textLength, a_slotStatus, a_slotError, b_removed, b_tType, b_tA, b_tB, b_tName, b_tMatch, b_tCount, b_oc, b_cc, b_newO, b_newC, b_openName, b_openTok, b_vKind, b_vNum, b_vCnt, b_vStr, b_vItem, b_vKey, b_vVal, a_out, b_fv, b_cKind, b_cSlot, b_cTok, b_cVal, b_cIdx, b_dig)) (-1)) ∧ (¬ r_1 < 4 → (v2 < 0 → (fun r' => r' = r ∧ i_Rel (k + 4) (f_openMarkLength, f_closeMarkLength, f_openCount, f_compileFrom, f_compileTo, nI nv, nI cap, nI oc, f_frameCount, f_valueTextLength, f_renderAt, f_renderTo, f_returnAt, f_finished, f_overflowed, a_text, a_cellKind, a_cellName, a_tagEnd, a_sectionEnd, a_textLength, a_slotStatus, a_slotError, a_openMark, a_closeMark, a_openTags, a_valueKind, a_amount, a_parts, a_fieldValues, a_out, a_frameValue, a_frameList, a_frameNext, a_frameBody, a_valueText) (g_ol, g_cl, g_newOl, g_newCl, g_tagName, g_parseErr, g_openCount, nI nv, nI oc, nI cap, g_fn, g_cn, a_text, a_textLength, a_slotStatus, a_slotError, b_removed, b_tType, b_tA, b_tB, b_tName, b_tMatch, b_tCount, b_oc, b_cc, b_newO, b_newC, b_openName, b_openTok, b_vKind, b_vNum, b_vCnt, b_vStr, b_vItem, b_vKey, b_vVal, a_out, b_fv, b_cKind, b_cSlot, b_cTok, b_cVal, b_cIdx, b_dig)) (-1)) ∧ (¬ v2 < 0 → vp_in (nI (j + 1) - 1) 32 ∧ (v2 < b_vCnt (nI (j + 1) - 1).toNatClampNeg → (r_1 = 4 → vp_in ((nI (j + 1) - 1) * 8 + v2) 256 ∧ (fun r' => r' = r ∧ i_Rel (k + 4) (f_openMarkLength, f_closeMarkLength, f_openCount, f_compileFrom, f_compileTo, nI nv, nI cap, nI oc, f_frameCount, f_valueTextLength, f_renderAt, f_renderTo, f_returnAt, f_finished, f_overflowed, a_text, a_cellKind, a_cellName, a_tagEnd, a_sectionEnd, a_textLength, a_slotStatus, a_slotError, a_openMark, a_closeMark, a_openTags, a_valueKind, a_amount, a_parts, a_fieldValues, a_out, a_frameValue, a_frameList, a_frameNext, a_frameBody, a_valueText) (g_ol, g_cl, g_newOl, g_newCl, g_tagName, g_parseErr, g_openCount, nI nv, nI oc, nI cap, g_fn, g_cn, a_text, a_textLength, a_slotStatus, a_slotError, b_removed, b_tType, b_tA, b_tB, b_tName, b_tMatch, b_tCount, b_oc, b_cc, b_newO, b_newC, b_openName, b_openTok, b_vKind, b_vNum, b_vCnt, b_vStr, b_vItem, b_vKey, b_vVal, a_out, b_fv, b_cKind, b_cSlot, b_cTok, b_cVal, b_cIdx, b_dig)) (b_vStr ((nI (j + 1) - 1) * 8 + v2).toNatClampNeg)) ∧ (¬ r_1 = 4 → (r_1 = 5 → vp_in ((nI (j + 1) - 1) * 4 + v2) 128 ∧ (fun r' => r' = r ∧ i_Rel (k + 4) (f_openMarkLength, f_closeMarkLength, f_openCount, f_compileFrom, f_compileTo, nI nv, nI cap, nI oc, f_frameCount, f_valueTextLength, f_renderAt, f_renderTo, f_returnAt, f_finished, f_overflowed, a_text, a_cellKind, a_cellName, a_tagEnd, a_sectionEnd, a_textLength, a_slotStatus, a_slotError, a_openMark, a_closeMark, a_openTags, a_valueKind, a_amount, a_parts, a_fieldValues, a_out, a_frameValue, a_frameList, a_frameNext, a_frameBody, a_valueText) (g_ol, g_cl, g_newOl, g_newCl, g_tagName, g_parseErr, g_openCount, nI nv, nI oc, nI cap, g_fn, g_cn, a_text, a_textLength, a_slotStatus, a_slotError, b_removed, b_tType, b_tA, b_tB, b_tName, b_tMatch, b_tCount, b_oc, b_cc, b_newO, b_newC, b_openName, b_openTok, b_vKind, b_vNum, b_vCnt, b_vStr, b_vItem, b_vKey, b_vVal, a_out, b_fv, b_cKind, b_cSlot, b_cTok, b_cVal, b_cIdx, b_dig)) (b_vItem ((nI (j + 1) - 1) * 4 + v2).toNatClampNeg)) ∧ (¬ r_1 = 5 → vp_in ((nI (j + 1) - 1) * 4 + v2) 128 ∧ (fun r' => r' = r ∧ i_Rel (k + 4) (f_openMarkLength, f_closeMarkLength, f_openCount, f_compileFrom, f_compileTo, nI nv, nI cap, nI oc, f_frameCount, f_valueTextLength, f_renderAt, f_renderTo, f_returnAt, f_finished, f_overflowed, a_text, a_cellKind, a_cellName, a_tagEnd, a_sectionEnd, a_textLength, a_slotStatus, a_slotError, a_openMark, a_closeMark, a_openTags, a_valueKind, a_amount, a_parts, a_fieldValues, a_out, a_frameValue, a_frameList, a_frameNext, a_frameBody, a_valueText) (g_ol, g_cl, g_newOl, g_newCl, g_tagName, g_parseErr, g_openCount, nI nv, nI oc, nI cap, g_fn, g_cn, a_text, a_textLength, a_slotStatus, a_slotError, b_removed, b_tType, b_tA, b_tB, b_tName, b_tMatch, b_tCount, b_oc, b_cc, b_newO, b_newC, b_openName, b_openTok, b_vKind, b_vNum, b_vCnt, b_vStr, b_vItem, b_vKey, b_vVal, a_out, b_fv, b_cKind, b_cSlot, b_cTok, b_cVal, b_cIdx, b_dig)) (b_vKey ((nI (j + 1) - 1) * 4 + v2).toNatClampNeg)))) ∧ (¬ v2 < b_vCnt (nI (j + 1) - 1).toNatClampNeg → (fun r' => r' = r ∧ i_Rel (k + 4) (f_openMarkLength, f_closeMarkLength, f_openCount, f_compileFrom, f_compileTo, nI nv, nI cap, nI oc, f_frameCount, f_valueTextLength, f_renderAt, f_renderTo, f_returnAt, f_finished, f_overflowed, a_text, a_cellKind, a_cellName, a_tagEnd, a_sectionEnd, a_textLength, a_slotStatus, a_slotError, a_openMark, a_closeMark, a_openTags, a_valueKind, a_amount, a_parts, a_fieldValues, a_out, a_frameValue, a_frameList, a_frameNext, a_frameBody, a_valueText) (g_ol, g_cl, g_newOl, g_newCl, g_tagName, g_parseErr, g_openCount, nI nv, nI oc, nI cap, g_fn, g_cn, a_text, a_textLength, a_slotStatus, a_slotError, b_removed, b_tType, b_tA, b_tB, b_tName, b_tMatch, b_tCount, b_oc, b_cc, b_newO, b_newC, b_openName, b_openTok, b_vKind, b_vNum, b_vCnt, b_vStr, b_vItem, b_vKey, b_vVal, a_out, b_fv, b_cKind, b_cSlot, b_cTok, b_cVal, b_cIdx, b_dig)) (-1))))))) (g_ol, g_cl, g_newOl, g_newCl, g_tagName, g_parseErr, g_openCount, nI nv, nI oc, nI cap, g_fn, g_cn, a_text, a_textLength, a_slotStatus, a_slotError, b_removed, b_tType, b_tA, b_tB, b_tName, b_tMatch, b_tCount, b_oc, b_cc, b_newO, b_newC, b_openName, b_openTok, b_vKind, b_vNum, b_vCnt, b_vStr, b_vItem, b_vKey, b_vVal, a_out, b_fv, b_cKind, b_cSlot, b_cTok, b_cVal, b_cIdx, b_dig) (nI (j + 1))) (nI (j + 1)) v2 f_openMarkLength f_closeMarkLength f_openCount f_compileFrom f_compileTo (nI nv) (nI cap) (nI oc) f_frameCount f_valueTextLength f_renderAt f_renderTo f_returnAt f_finished f_overflowed a_text a_cellKind a_cellName a_tagEnd a_sectionEnd a_textLength a_slotStatus a_slotError a_openMark a_closeMark a_openTags a_valueKind a_amount a_parts a_fieldValues a_out a_frameValue a_frameList a_frameNext a_frameBody a_valueText := by
          unfold wX_valueInfo_50 wX_valueInfo_55
          refine br_f (by decide) ?_
          by_cases z0 : v2 < 0
          · exact br_t z0 (yl_kin hnv hj g5 (br_f z (br_f y (br_f m4 (br_t z0 ⟨rfl, ir_mk hc1 hc2 hoc hT hV⟩)))))
          · obtain ⟨i, hi, rfl⟩ := nI_of z0
            refine br_f z0 ⟨vp_in_nI (by omega) (by omega), ?_⟩
            rw [nI_clamp (show j + 1 < 2 ^ 31 from by omega), g8 (by omega), la_m8, nI_add]
            refine pk_lt i (ct (j + 1)) (fun w => ⟨vp_in_nI (by omega) (by omega), yl_kin hnv hj g5 (br_f z (br_f y (br_f m4 (br_f z0 ⟨?h1, ?h2⟩))))⟩) (fun w => yl_kin hnv hj g5 (br_f z (br_f y (br_f m4 (br_f z0 ⟨?h3, ?h4⟩)))))
            case h1 => rw [nI_pred]; exact vp_in_nI (by omega) (by omega)
            case h3 => rw [nI_pred]; exact vp_in_nI (by omega) (by omega)
            case h4 =>
              rw [nI_pred, nI_clamp (show j < 2 ^ 31 from by omega), g6]
              exact br_f (nI_nlt w (by omega)) ⟨rfl, ir_mk hc1 hc2 hoc hT hV⟩
            case h2 =>
              rw [nI_pred, nI_clamp (show j < 2 ^ 31 from by omega), g6, nI_clamp (by omega), la_m8, la_m4, nI_add, nI_add, nI_clamp (by omega), nI_clamp (by omega)]
              refine br_t (nI_lt w (by omega)) (pk_eq (kd (j + 1)) 4 (fun k4 => ⟨vp_in_nI (by omega) (by omega), (g11 k4 i w).symm, ir_mk hc1 hc2 hoc hT hV⟩) (fun k4 => ?_))
              have c4 := g10 (by omega)
              refine pk_eq (kd (j + 1)) 5 (fun k5 => ⟨vp_in_nI (by omega) (by omega), (g12 k5 i w).1.symm, ir_mk hc1 hc2 hoc hT hV⟩) (fun k5 => ⟨vp_in_nI (by omega) (by omega), (g13 (by omega) i w).1.symm, ir_mk hc1 hc2 hoc hT hV⟩)
        refine pk_eq (kd (j + 1)) 4 (fun _ => key) (fun k4 => pk_eq (kd (j + 1)) 5 (fun _ => key) (fun k5 => br_t (by rw [show kd (j + 1) = 6 from by omega]; rfl) key))
      · have m4 : nI (kd (j + 1)) < 4 := nI_lt (b := 4) (by omega) (by decide)
        have m : ∀ w, 4 ≤ w → w ≤ 6 → ¬ nI (kd (j + 1)) = nI w := fun w w1 w2 x => by
          have := la_im x (by omega) (by omega)
          omega
        exact br_f (m 4 (by omega) (by omega)) (br_f (m 5 (by omega) (by omega)) (br_f (m 6 (by omega) (by omega)) (br_t rfl (yl_kin hnv hj g5 (br_f z (br_f y (br_t m4 ⟨rfl, ir_mk hc1 hc2 hoc hT hV⟩)))))))
end LLMO
end
section
section LLIN
section XX
variable {f_openMarkLength f_closeMarkLength f_openCount f_compileFrom f_compileTo f_valueCount f_outCap f_outCount f_frameCount f_valueTextLength f_renderAt f_renderTo f_returnAt f_finished f_overflowed : Int32} {a_text a_cellKind a_cellName a_tagEnd a_sectionEnd a_textLength a_slotStatus a_slotError a_openMark a_closeMark a_openTags a_valueKind a_amount a_parts a_fieldValues a_out a_frameValue a_frameList a_frameNext a_frameBody a_valueText : Nat → Int32}
theorem xl_in {post : SX → Prop} (h : post (f_openMarkLength, f_closeMarkLength, f_openCount, f_compileFrom, f_compileTo, f_valueCount, f_outCap, f_outCount, f_frameCount, f_valueTextLength, f_renderAt, f_renderTo, f_returnAt, f_finished, f_overflowed, a_text, a_cellKind, a_cellName, a_tagEnd, a_sectionEnd, a_textLength, fl_f a_slotStatus 0 4 (-7), fl_f a_slotError 0 4 (-1), a_openMark, a_closeMark, a_openTags, a_valueKind, a_amount, a_parts, a_fieldValues, a_out, a_frameValue, a_frameList, a_frameNext, a_frameBody, a_valueText)) : ∀ d i, i + d = 4 → wX_init_199 post f_openMarkLength f_closeMarkLength f_openCount f_compileFrom f_compileTo f_valueCount f_outCap f_outCount f_frameCount f_valueTextLength f_renderAt f_renderTo f_returnAt f_finished f_overflowed (d + 1) (nI i) a_text a_cellKind a_cellName a_tagEnd a_sectionEnd a_textLength (fl_f a_slotStatus 0 i (-7)) (fl_f a_slotError 0 i (-1)) a_openMark a_closeMark a_openTags a_valueKind a_amount a_parts a_fieldValues a_out a_frameValue a_frameList a_frameNext a_frameBody a_valueText := by
  intro d
  induction d with
  | zero =>
    intro i hi
    have e : i = 4 := by omega
    subst e
    exact br_t (nI_le (a := 4) (b := 4) (by omega) (by decide)) h
  | succ d ih =>
    intro i hi
    refine br_f (nI_ge (b := 4) (by omega) (by decide)) ⟨vp_in_nI (by omega) (by omega), nm_r ?_ ⟨vp_in_nI (by omega) (by omega), nm_r ?_ (nm_r (nI_1 _) (ih (i + 1) (by omega)))⟩⟩
    · rw [nI_clamp (by omega)]; exact fl_s (by omega)
    · rw [nI_clamp (by omega)]; exact fl_s (by omega)
end XX
section YY
variable {g_ol g_cl g_newOl g_newCl g_tagName g_parseErr g_openCount g_nVals g_outLen g_outCap g_fn g_cn : Int32} {b_text b_len b_stat b_errPos b_removed b_tType b_tA b_tB b_tName b_tMatch b_tCount b_oc b_cc b_newO b_newC b_openName b_openTok b_vKind b_vNum b_vCnt b_vStr b_vItem b_vKey b_vVal b_out b_fv b_cKind b_cSlot b_cTok b_cVal b_cIdx b_dig : Nat → Int32}
theorem yl_in {post : SY → Prop} (h : post (g_ol, g_cl, g_newOl, g_newCl, g_tagName, g_parseErr, g_openCount, g_nVals, g_outLen, g_outCap, g_fn, g_cn, b_text, b_len, fl_f b_stat 0 4 (-7), fl_f b_errPos 0 4 (-1), b_removed, b_tType, b_tA, b_tB, b_tName, b_tMatch, b_tCount, b_oc, b_cc, b_newO, b_newC, b_openName, b_openTok, b_vKind, b_vNum, b_vCnt, b_vStr, b_vItem, b_vKey, b_vVal, b_out, b_fv, b_cKind, b_cSlot, b_cTok, b_cVal, b_cIdx, b_dig)) : ∀ d i, i + d = 4 → wY_init_291 post g_ol g_cl g_newOl g_newCl g_tagName g_parseErr g_openCount g_nVals g_outLen g_outCap g_fn g_cn (d + 1) (nI i) b_text b_len (fl_f b_stat 0 i (-7)) (fl_f b_errPos 0 i (-1)) b_removed b_tType b_tA b_tB b_tName b_tMatch b_tCount b_oc b_cc b_newO b_newC b_openName b_openTok b_vKind b_vNum b_vCnt b_vStr b_vItem b_vKey b_vVal b_out b_fv b_cKind b_cSlot b_cTok b_cVal b_cIdx b_dig := by
  intro d
  induction d with
  | zero =>
    intro i hi
    have e : i = 4 := by omega
    subst e
    exact br_t (nI_le (a := 4) (b := 4) (by omega) (by decide)) h
  | succ d ih =>
    intro i hi
    refine br_f (nI_ge (b := 4) (by omega) (by decide)) ⟨vp_in_nI (by omega) (by omega), nm_r ?_ ⟨vp_in_nI (by omega) (by omega), nm_r ?_ (nm_r (nI_1 _) (ih (i + 1) (by omega)))⟩⟩
    · rw [nI_clamp (by omega)]; exact fl_s (by omega)
    · rw [nI_clamp (by omega)]; exact fl_s (by omega)
end YY
theorem in_cap (x : Int32) : ∃ c : Nat, 16 ≤ c ∧ c ≤ 256 ∧ ((¬ 16 ≤ x ∧ c = 16) ∨ (16 ≤ x ∧ x ≤ 256 ∧ x = nI c) ∨ (16 ≤ x ∧ ¬ x ≤ 256 ∧ c = 256)) := by
  by_cases h : 16 ≤ x
  · by_cases h2 : x ≤ 256
    · have h0 : ¬ x < 0 := fun z => absurd (Int32.lt_of_le_of_lt h z) (by decide)
      obtain ⟨c, hc, rfl⟩ := nI_of h0
      exact ⟨c, (nI_leI (a := 16) (by omega) hc).mp h, (nI_leI (b := 256) hc (by omega)).mp h2, Or.inr (Or.inl ⟨h, h2, rfl⟩)⟩
    · exact ⟨256, by omega, by omega, Or.inr (Or.inr ⟨h, h2, rfl⟩)⟩
  · exact ⟨16, by omega, by omega, Or.inl ⟨h, rfl⟩⟩
theorem in_rel {c : Nat} (h1 : 16 ≤ c) (h2 : c ≤ 256) : i_Rel 1 (0, 0, 0, 0, 0, 0, nI c, 0, 0, 0, 0, 0, 0, 0, 0, fun _ => 0, fun _ => 0, fun _ => 0, fun _ => 0, fun _ => 0, fun _ => 0, fl_f (fun _ => 0) 0 4 (-7), fl_f (fun _ => 0) 0 4 (-1), fun _ => 0, fun _ => 0, fun _ => 0, fun _ => 0, fun _ => 0, fun _ => 0, fun _ => 0, fun _ => 0, fun _ => 0, fun _ => 0, fun _ => 0, fun _ => 0, fun _ => 0) (0, 0, 0, 0, 0, 0, 0, 0, 0, nI c, 0, 0, fun _ => 0, fun _ => 0, fl_f (fun _ => 0) 0 4 (-7), fl_f (fun _ => 0) 0 4 (-1), fun _ => 0, fun _ => 0, fun _ => 0, fun _ => 0, fun _ => 0, fun _ => 0, fun _ => 0, fun _ => 0, fun _ => 0, fun _ => 0, fun _ => 0, fun _ => 0, fun _ => 0, fun _ => 0, fun _ => 0, fun _ => 0, fun _ => 0, fun _ => 0, fun _ => 0, fun _ => 0, fun _ => 0, fun _ => 0, fun _ => 0, fun _ => 0, fun _ => 0, fun _ => 0, fun _ => 0, fun _ => 0) := by
  refine ir_mk (ln := fun _ => 0) (nv := 0) (oc := 0) (cap := c) (kd := fun _ => 0) (ct := fun _ => 0) h1 h2 (by omega) ⟨fun s hs => ⟨Nat.zero_le _, rfl⟩, fun j => (by decide : (0 : Int32) ≤ 0 ∧ (0 : Int32) ≤ 126), fun s hs z => ?_⟩ ⟨by omega, fun j hj => absurd hj (by omega)⟩
  rw [fl_in (by omega) hs] at z
  exact absurd z (by decide)
theorem i_vc0 (k0 : Int32) : wpX_init (fun u => wpY_init (fun v => i_Rel 1 u v) k0) k0 := by
  obtain ⟨c, c1, c2, h⟩ := in_cap k0
  have ry := yl_in (g_ol := 0) (g_cl := 0) (g_newOl := 0) (g_newCl := 0) (g_tagName := 0) (g_parseErr := 0) (g_openCount := 0) (g_nVals := 0) (g_outLen := 0) (g_outCap := nI c) (g_fn := 0) (g_cn := 0) (b_text := fun _ => 0) (b_len := fun _ => 0) (b_stat := fun _ => 0) (b_errPos := fun _ => 0) (b_removed := fun _ => 0) (b_tType := fun _ => 0) (b_tA := fun _ => 0) (b_tB := fun _ => 0) (b_tName := fun _ => 0) (b_tMatch := fun _ => 0) (b_tCount := fun _ => 0) (b_oc := fun _ => 0) (b_cc := fun _ => 0) (b_newO := fun _ => 0) (b_newC := fun _ => 0) (b_openName := fun _ => 0) (b_openTok := fun _ => 0) (b_vKind := fun _ => 0) (b_vNum := fun _ => 0) (b_vCnt := fun _ => 0) (b_vStr := fun _ => 0) (b_vItem := fun _ => 0) (b_vKey := fun _ => 0) (b_vVal := fun _ => 0) (b_out := fun _ => 0) (b_fv := fun _ => 0) (b_cKind := fun _ => 0) (b_cSlot := fun _ => 0) (b_cTok := fun _ => 0) (b_cVal := fun _ => 0) (b_cIdx := fun _ => 0) (b_dig := fun _ => 0) (post := fun v => i_Rel 1 (0, 0, 0, 0, 0, 0, nI c, 0, 0, 0, 0, 0, 0, 0, 0, fun _ => 0, fun _ => 0, fun _ => 0, fun _ => 0, fun _ => 0, fun _ => 0, fl_f (fun _ => 0) 0 4 (-7), fl_f (fun _ => 0) 0 4 (-1), fun _ => 0, fun _ => 0, fun _ => 0, fun _ => 0, fun _ => 0, fun _ => 0, fun _ => 0, fun _ => 0, fun _ => 0, fun _ => 0, fun _ => 0, fun _ => 0, fun _ => 0) v) (in_rel c1 c2) 4 0 rfl
  rw [fl_0 (lo := 0) (hi := 0) (x := -7) (Nat.le_refl _), fl_0 (lo := 0) (hi := 0) (x := -1) (Nat.le_refl _)] at ry
  rcases h with ⟨a, rfl⟩ | ⟨a, b, rfl⟩ | ⟨a, b, rfl⟩
  · have rx := xl_in (f_openMarkLength := 0) (f_closeMarkLength := 0) (f_openCount := 0) (f_compileFrom := 0) (f_compileTo := 0) (f_valueCount := 0) (f_outCap := nI 16) (f_outCount := 0) (f_frameCount := 0) (f_valueTextLength := 0) (f_renderAt := 0) (f_renderTo := 0) (f_returnAt := 0) (f_finished := 0) (f_overflowed := 0) (a_text := fun _ => 0) (a_cellKind := fun _ => 0) (a_cellName := fun _ => 0) (a_tagEnd := fun _ => 0) (a_sectionEnd := fun _ => 0) (a_textLength := fun _ => 0) (a_slotStatus := fun _ => 0) (a_slotError := fun _ => 0) (a_openMark := fun _ => 0) (a_closeMark := fun _ => 0) (a_openTags := fun _ => 0) (a_valueKind := fun _ => 0) (a_amount := fun _ => 0) (a_parts := fun _ => 0) (a_fieldValues := fun _ => 0) (a_out := fun _ => 0) (a_frameValue := fun _ => 0) (a_frameList := fun _ => 0) (a_frameNext := fun _ => 0) (a_frameBody := fun _ => 0) (a_valueText := fun _ => 0) (post := fun u => wpY_init (fun v => i_Rel 1 u v) k0) (br_f a (br_t (by decide) ⟨_, ry⟩)) 4 0 rfl
    rw [fl_0 (lo := 0) (hi := 0) (x := -7) (Nat.le_refl _), fl_0 (lo := 0) (hi := 0) (x := -1) (Nat.le_refl _)] at rx
    exact br_f a (br_t (by decide) ⟨_, rx⟩)
  · have rx := xl_in (f_openMarkLength := 0) (f_closeMarkLength := 0) (f_openCount := 0) (f_compileFrom := 0) (f_compileTo := 0) (f_valueCount := 0) (f_outCap := nI c) (f_outCount := 0) (f_frameCount := 0) (f_valueTextLength := 0) (f_renderAt := 0) (f_renderTo := 0) (f_returnAt := 0) (f_finished := 0) (f_overflowed := 0) (a_text := fun _ => 0) (a_cellKind := fun _ => 0) (a_cellName := fun _ => 0) (a_tagEnd := fun _ => 0) (a_sectionEnd := fun _ => 0) (a_textLength := fun _ => 0) (a_slotStatus := fun _ => 0) (a_slotError := fun _ => 0) (a_openMark := fun _ => 0) (a_closeMark := fun _ => 0) (a_openTags := fun _ => 0) (a_valueKind := fun _ => 0) (a_amount := fun _ => 0) (a_parts := fun _ => 0) (a_fieldValues := fun _ => 0) (a_out := fun _ => 0) (a_frameValue := fun _ => 0) (a_frameList := fun _ => 0) (a_frameNext := fun _ => 0) (a_frameBody := fun _ => 0) (a_valueText := fun _ => 0) (post := fun u => wpY_init (fun v => i_Rel 1 u v) (nI c)) (br_t a (br_t b ⟨_, ry⟩)) 4 0 rfl
    rw [fl_0 (lo := 0) (hi := 0) (x := -7) (Nat.le_refl _), fl_0 (lo := 0) (hi := 0) (x := -1) (Nat.le_refl _)] at rx
    exact br_t a (br_t b ⟨_, rx⟩)
  · have rx := xl_in (f_openMarkLength := 0) (f_closeMarkLength := 0) (f_openCount := 0) (f_compileFrom := 0) (f_compileTo := 0) (f_valueCount := 0) (f_outCap := nI 256) (f_outCount := 0) (f_frameCount := 0) (f_valueTextLength := 0) (f_renderAt := 0) (f_renderTo := 0) (f_returnAt := 0) (f_finished := 0) (f_overflowed := 0) (a_text := fun _ => 0) (a_cellKind := fun _ => 0) (a_cellName := fun _ => 0) (a_tagEnd := fun _ => 0) (a_sectionEnd := fun _ => 0) (a_textLength := fun _ => 0) (a_slotStatus := fun _ => 0) (a_slotError := fun _ => 0) (a_openMark := fun _ => 0) (a_closeMark := fun _ => 0) (a_openTags := fun _ => 0) (a_valueKind := fun _ => 0) (a_amount := fun _ => 0) (a_parts := fun _ => 0) (a_fieldValues := fun _ => 0) (a_out := fun _ => 0) (a_frameValue := fun _ => 0) (a_frameList := fun _ => 0) (a_frameNext := fun _ => 0) (a_frameBody := fun _ => 0) (a_valueText := fun _ => 0) (post := fun u => wpY_init (fun v => i_Rel 1 u v) k0) (br_t a (br_f b ⟨_, ry⟩)) 4 0 rfl
    rw [fl_0 (lo := 0) (hi := 0) (x := -7) (Nat.le_refl _), fl_0 (lo := 0) (hi := 0) (x := -1) (Nat.le_refl _)] at rx
    exact br_t a (br_f b ⟨_, rx⟩)
end LLIN
end
section
section LLXC
variable {f_openMarkLength f_closeMarkLength f_openCount f_compileFrom f_compileTo f_valueCount f_outCap f_outCount f_frameCount f_valueTextLength f_renderAt f_renderTo f_returnAt f_finished f_overflowed : Int32} {a_text a_cellKind a_cellName a_tagEnd a_sectionEnd a_textLength a_slotStatus a_slotError a_openMark a_closeMark a_openTags a_valueKind a_amount a_parts a_fieldValues a_out a_frameValue a_frameList a_frameNext a_frameBody a_valueText : Nat → Int32}
theorem xl_ml {post : Int32 → Prop} {l : Nat} {x : Int32} (hx : x = nI l) (hl : l ≤ 96) (h1 : 1 ≤ l → l ≤ 3 → post 1) (h0 : ¬ (1 ≤ l ∧ l ≤ 3) → post 0) : wpX_isMarkLength post (f_openMarkLength, f_closeMarkLength, f_openCount, f_compileFrom, f_compileTo, f_valueCount, f_outCap, f_outCount, f_frameCount, f_valueTextLength, f_renderAt, f_renderTo, f_returnAt, f_finished, f_overflowed, a_text, a_cellKind, a_cellName, a_tagEnd, a_sectionEnd, a_textLength, a_slotStatus, a_slotError, a_openMark, a_closeMark, a_openTags, a_valueKind, a_amount, a_parts, a_fieldValues, a_out, a_frameValue, a_frameList, a_frameNext, a_frameBody, a_valueText) x := by
  subst hx
  exact pk_lt l 1 (fun z => h0 (by omega)) (fun z => pk_lt 3 l (fun w => h0 (by omega)) (fun w => h1 z w))
section TXT
variable {s n q a b : Nat} {T : Nat → Int32}
theorem xl_skip' {post : Int32 → Prop} {i e : Nat} {x y : Int32} (hs : s < 4) (hT : ∀ i, i < 96 → a_text (s * 96 + i) = T i) (he : e ≤ 96) (hi : i ≤ e) (hx : x = nI (s * 96 + i)) (hy : y = nI (s * 96 + e)) (h : post (nI (s * 96 + ll_sp T (e - i) i))) : wpX_skipSpaces post (f_openMarkLength, f_closeMarkLength, f_openCount, f_compileFrom, f_compileTo, f_valueCount, f_outCap, f_outCount, f_frameCount, f_valueTextLength, f_renderAt, f_renderTo, f_returnAt, f_finished, f_overflowed, a_text, a_cellKind, a_cellName, a_tagEnd, a_sectionEnd, a_textLength, a_slotStatus, a_slotError, a_openMark, a_closeMark, a_openTags, a_valueKind, a_amount, a_parts, a_fieldValues, a_out, a_frameValue, a_frameList, a_frameNext, a_frameBody, a_valueText) x y := by
  subst hx hy
  exact xl_skip hs hT he hi h
theorem xl_skipb' {post : Int32 → Prop} {lo j : Nat} {x y : Int32} (hs : s < 4) (hT : ∀ i, i < 96 → a_text (s * 96 + i) = T i) (hj : j ≤ 96) (hi : lo ≤ j) (hx : x = nI (s * 96 + lo)) (hy : y = nI (s * 96 + j)) (h : post (nI (s * 96 + ll_sb T (j - lo) j))) : wpX_skipSpacesBack post (f_openMarkLength, f_closeMarkLength, f_openCount, f_compileFrom, f_compileTo, f_valueCount, f_outCap, f_outCount, f_frameCount, f_valueTextLength, f_renderAt, f_renderTo, f_returnAt, f_finished, f_overflowed, a_text, a_cellKind, a_cellName, a_tagEnd, a_sectionEnd, a_textLength, a_slotStatus, a_slotError, a_openMark, a_closeMark, a_openTags, a_valueKind, a_amount, a_parts, a_fieldValues, a_out, a_frameValue, a_frameList, a_frameNext, a_frameBody, a_valueText) x y := by
  subst hx hy
  exact xl_skipb hs hT hj hi h
theorem xl_sw80 {post : Int32 → SX → Prop} {z0 : Int32} (hs : s < 4) (hT : ∀ i, i < 96 → a_text (s * 96 + i) = T i) (hb : b ≤ 96) (hab : a + 3 ≤ b) (w : T (b - 1) = 61)
    (hz : (z0 = 0 ∧ ¬ ll_sm T (ll_dh T a b - ll_db T a b) (ll_db T a b) = ll_dh T a b) ∨ (z0 = 1 ∧ ll_sm T (ll_dh T a b - ll_db T a b) (ll_db T a b) = ll_dh T a b))
    (hF : ¬ ll_dok T a b → post 0 (f_openMarkLength, f_closeMarkLength, f_openCount, f_compileFrom, f_compileTo, f_valueCount, f_outCap, f_outCount, f_frameCount, f_valueTextLength, f_renderAt, f_renderTo, f_returnAt, f_finished, f_overflowed, a_text, a_cellKind, a_cellName, a_tagEnd, a_sectionEnd, a_textLength, a_slotStatus, a_slotError, a_openMark, a_closeMark, a_openTags, a_valueKind, a_amount, a_parts, a_fieldValues, a_out, a_frameValue, a_frameList, a_frameNext, a_frameBody, a_valueText))
    (hS : ll_dok T a b → post 1 (nI (ll_de T a b - ll_da T a b), nI (ll_dh T a b - ll_db T a b), f_openCount, f_compileFrom, f_compileTo, f_valueCount, f_outCap, f_outCount, f_frameCount, f_valueTextLength, f_renderAt, f_renderTo, f_returnAt, f_finished, f_overflowed, a_text, a_cellKind, a_cellName, a_tagEnd, a_sectionEnd, a_textLength, a_slotStatus, a_slotError, cy_f a_openMark (fun j => T (ll_da T a b + j)) (ll_de T a b - ll_da T a b), cy_f a_closeMark (fun j => T (ll_db T a b + j)) (ll_dh T a b - ll_db T a b), a_openTags, a_valueKind, a_amount, a_parts, a_fieldValues, a_out, a_frameValue, a_frameList, a_frameNext, a_frameBody, a_valueText)) :
    wX_switchMarks_80 post (nI (s * 96 + ll_da T a b)) (nI (s * 96 + ll_dh T a b)) (nI (s * 96 + ll_de T a b)) (nI (s * 96 + ll_db T a b)) z0 f_openMarkLength f_closeMarkLength f_openCount f_compileFrom f_compileTo f_valueCount f_outCap f_outCount f_frameCount f_valueTextLength f_renderAt f_renderTo f_returnAt f_finished f_overflowed a_text a_cellKind a_cellName a_tagEnd a_sectionEnd a_textLength a_slotStatus a_slotError a_openMark a_closeMark a_openTags a_valueKind a_amount a_parts a_fieldValues a_out a_frameValue a_frameList a_frameNext a_frameBody a_valueText := by
  have hd := ll_d_b (T := T) (a := a) (b := b) hab
  unfold wX_switchMarks_80
  rcases hz with ⟨z, y⟩ | ⟨z, y⟩
  · exact br_t z (hF (fun x => y x.2.2.1))
  · refine br_f (by rw [z]; decide) (xl_ml (l := ll_de T a b - ll_da T a b) (la_dif (by omega)) (by omega) (fun p1 p2 => br_f (by decide) (xl_ml (l := ll_dh T a b - ll_db T a b) (la_dif (by omega)) (by omega) (fun p3 p4 => br_f (by decide) (nm_r (la_dif (by omega)) (nm_r (la_dif (by omega)) ?_))) (fun p => br_t rfl (hF (fun y => p ⟨by have := y.2.2.2.2; omega, by have := y.2.2.2.2; omega⟩))))) (fun p => br_t rfl (hF (fun y => p ⟨by have := y.2.2.2.1; omega, by have := y.2.2.2.1; omega⟩))))
    refine xl_copy_openMark (x := ll_da T a b) hs hT (by omega) (by omega) (xl_copy_closeMark (x := ll_db T a b) hs hT (by omega) (by omega) ?_)
    exact hS ⟨hab, w, y, ⟨by omega, by omega⟩, by omega, by omega⟩
theorem xl_sw {post : Int32 → SX → Prop} (hs : s < 4) (hT : ∀ i, i < 96 → a_text (s * 96 + i) = T i) (hb : b ≤ 96) (hab : a ≤ b)
    (hF : ¬ ll_dok T a b → post 0 (f_openMarkLength, f_closeMarkLength, f_openCount, f_compileFrom, f_compileTo, f_valueCount, f_outCap, f_outCount, f_frameCount, f_valueTextLength, f_renderAt, f_renderTo, f_returnAt, f_finished, f_overflowed, a_text, a_cellKind, a_cellName, a_tagEnd, a_sectionEnd, a_textLength, a_slotStatus, a_slotError, a_openMark, a_closeMark, a_openTags, a_valueKind, a_amount, a_parts, a_fieldValues, a_out, a_frameValue, a_frameList, a_frameNext, a_frameBody, a_valueText))
    (hS : ll_dok T a b → post 1 (nI (ll_de T a b - ll_da T a b), nI (ll_dh T a b - ll_db T a b), f_openCount, f_compileFrom, f_compileTo, f_valueCount, f_outCap, f_outCount, f_frameCount, f_valueTextLength, f_renderAt, f_renderTo, f_returnAt, f_finished, f_overflowed, a_text, a_cellKind, a_cellName, a_tagEnd, a_sectionEnd, a_textLength, a_slotStatus, a_slotError, cy_f a_openMark (fun j => T (ll_da T a b + j)) (ll_de T a b - ll_da T a b), cy_f a_closeMark (fun j => T (ll_db T a b + j)) (ll_dh T a b - ll_db T a b), a_openTags, a_valueKind, a_amount, a_parts, a_fieldValues, a_out, a_frameValue, a_frameList, a_frameNext, a_frameBody, a_valueText)) :
    wpX_switchMarks post (f_openMarkLength, f_closeMarkLength, f_openCount, f_compileFrom, f_compileTo, f_valueCount, f_outCap, f_outCount, f_frameCount, f_valueTextLength, f_renderAt, f_renderTo, f_returnAt, f_finished, f_overflowed, a_text, a_cellKind, a_cellName, a_tagEnd, a_sectionEnd, a_textLength, a_slotStatus, a_slotError, a_openMark, a_closeMark, a_openTags, a_valueKind, a_amount, a_parts, a_fieldValues, a_out, a_frameValue, a_frameList, a_frameNext, a_frameBody, a_valueText) (nI (s * 96 + a)) (nI (s * 96 + b)) := by
  unfold wpX_switchMarks
  refine pk_lt (b - a) 3 (fun z => hF (fun y => by have := y.1; omega)) (fun z => ?_) (la_dif hab)
  have e1 : nI (s * 96 + b) - 1 = nI (s * 96 + (b - 1)) := by rw [la_s (by omega)]; exact congrArg nI (by omega)
  have e2 : a_text (nI (s * 96 + b) - 1).toNatClampNeg = T (b - 1) := by rw [e1, nI_clamp (by omega), hT (b - 1) (by omega)]
  refine ⟨by rw [e1]; exact vp_in_nI (by omega) (by omega), ?_⟩
  by_cases w : T (b - 1) = 61
  · have hd := ll_d_b (T := T) (a := a) (b := b) (by omega)
    have hm := ll_sm_b (T := T) (ll_dh T a b - ll_db T a b) (ll_db T a b)
    refine br_t (e2.trans w) ?_
    refine xl_skip' (i := a + 1) (e := b - 1) hs hT (by omega) (by omega) (nI_1 _) e1 ?_
    refine xl_skipb' (lo := ll_da T a b) (j := b - 1) hs hT (by omega) (by omega) rfl e1 ?_
    refine xl_skipm (i := ll_da T a b) (e := ll_dh T a b) hs hT (by omega) (by omega) ?_
    refine xl_skip (i := ll_de T a b) (e := ll_dh T a b) hs hT (by omega) (by omega) ?_
    refine xl_skipm (i := ll_db T a b) (e := ll_dh T a b) hs hT (by omega) (by omega) ?_
    refine br_c (fun y => xl_sw80 hs hT hb (by omega) w (Or.inr ⟨rfl, ?_⟩) hF hS) (fun y => xl_sw80 hs hT hb (by omega) w (Or.inl ⟨rfl, fun x => ?_⟩) hF hS)
    · have y' : nI (s * 96 + ll_sm T (ll_dh T a b - ll_db T a b) (ll_db T a b)) = nI (s * 96 + ll_dh T a b) := y
      have := la_im y' (by omega) (by omega)
      omega
    · apply y
      exact congrArg (fun z => nI (s * 96 + z)) x
  · exact br_f (fun y => w (e2.symm.trans y)) (hF (fun y => w y.2.1))
theorem xl_rc43 {post : Int32 → SX → Prop} {lo : Nat} {k : Nat} (hs : s < 4) (hT : ∀ i, i < 96 → a_text (s * 96 + i) = T i) (hb : b ≤ 96) (hlo : lo ≤ b) (hq : q < 96) (hk : k ≤ 9)
    (h1 : (k = 9 → 49 ≤ ll_on T lo b ∧ ll_on T lo b ≤ 51) → (k ≠ 9 → ll_nm (ll_on T lo b)) → post 1 (f_openMarkLength, f_closeMarkLength, f_openCount, f_compileFrom, f_compileTo, f_valueCount, f_outCap, f_outCount, f_frameCount, f_valueTextLength, f_renderAt, f_renderTo, f_returnAt, f_finished, f_overflowed, a_text, a_cellKind, upd a_cellName (s * 96 + q) (ll_on T lo b), a_tagEnd, a_sectionEnd, a_textLength, a_slotStatus, a_slotError, a_openMark, a_closeMark, a_openTags, a_valueKind, a_amount, a_parts, a_fieldValues, a_out, a_frameValue, a_frameList, a_frameNext, a_frameBody, a_valueText))
    (h0 : ¬ ((k = 9 → 49 ≤ ll_on T lo b ∧ ll_on T lo b ≤ 51) ∧ (k ≠ 9 → ll_nm (ll_on T lo b))) → post 0 (f_openMarkLength, f_closeMarkLength, f_openCount, f_compileFrom, f_compileTo, f_valueCount, f_outCap, f_outCount, f_frameCount, f_valueTextLength, f_renderAt, f_renderTo, f_returnAt, f_finished, f_overflowed, a_text, a_cellKind, upd a_cellName (s * 96 + q) (ll_on T lo b), a_tagEnd, a_sectionEnd, a_textLength, a_slotStatus, a_slotError, a_openMark, a_closeMark, a_openTags, a_valueKind, a_amount, a_parts, a_fieldValues, a_out, a_frameValue, a_frameList, a_frameNext, a_frameBody, a_valueText)) :
    wX_readContent_43 post (nI (s * 96 + q)) (nI (s * 96 + b)) (nI k) (nI (s * 96 + lo)) f_openMarkLength f_closeMarkLength f_openCount f_compileFrom f_compileTo f_valueCount f_outCap f_outCount f_frameCount f_valueTextLength f_renderAt f_renderTo f_returnAt f_finished f_overflowed a_text a_cellKind a_cellName a_tagEnd a_sectionEnd a_textLength a_slotStatus a_slotError a_openMark a_closeMark a_openTags a_valueKind a_amount a_parts a_fieldValues a_out a_frameValue a_frameList a_frameNext a_frameBody a_valueText := by
  unfold wX_readContent_43
  refine xl_only hs hT hb hlo ⟨vp_in_nI (by omega) (by omega), nm_r (by rw [nI_clamp (by omega)]) ?_⟩
  refine pk_eq k 9 (fun z => ?_) (fun z => ?_)
  · refine br_c (fun y => h0 (fun x => absurd (x.1 z).1 (Int32.not_le.mpr y))) (fun y => br_c (fun x => h0 (fun w => absurd (w.1 z).2 (Int32.not_le.mpr x))) (fun x => h1 (fun _ => ⟨Int32.not_lt.mp y, Int32.not_lt.mp x⟩) (fun w => absurd z w)))
  · refine br_c (fun y => h1 (fun w => absurd w z) (fun _ => Or.inl y)) (fun y => xl_let (fun c1 c2 => br_f (by decide) (h1 (fun w => absurd w z) (fun _ => Or.inr ⟨c1, c2⟩))) (fun c0 => br_t rfl (h0 (fun w => ?_))))
    rcases w.2 z with w | w
    · exact y w
    · exact c0 w
theorem xl_rc {post : Int32 → SX → Prop} (hs : s < 4) (hT : ∀ i, i < 96 → a_text (s * 96 + i) = T i) (hb : b ≤ 96) (hab : a ≤ b) (hq : q < 96) (hK : a_cellKind (s * 96 + q) = nI (ll_kd T a b))
    (h4 : ll_kd T a b = 4 → post 1 (f_openMarkLength, f_closeMarkLength, f_openCount, f_compileFrom, f_compileTo, f_valueCount, f_outCap, f_outCount, f_frameCount, f_valueTextLength, f_renderAt, f_renderTo, f_returnAt, f_finished, f_overflowed, a_text, a_cellKind, a_cellName, a_tagEnd, a_sectionEnd, a_textLength, a_slotStatus, a_slotError, a_openMark, a_closeMark, a_openTags, a_valueKind, a_amount, a_parts, a_fieldValues, a_out, a_frameValue, a_frameList, a_frameNext, a_frameBody, a_valueText))
    (h5T : ll_kd T a b = 5 → ll_dok T a b → post 1 (nI (ll_de T a b - ll_da T a b), nI (ll_dh T a b - ll_db T a b), f_openCount, f_compileFrom, f_compileTo, f_valueCount, f_outCap, f_outCount, f_frameCount, f_valueTextLength, f_renderAt, f_renderTo, f_returnAt, f_finished, f_overflowed, a_text, a_cellKind, a_cellName, a_tagEnd, a_sectionEnd, a_textLength, a_slotStatus, a_slotError, cy_f a_openMark (fun j => T (ll_da T a b + j)) (ll_de T a b - ll_da T a b), cy_f a_closeMark (fun j => T (ll_db T a b + j)) (ll_dh T a b - ll_db T a b), a_openTags, a_valueKind, a_amount, a_parts, a_fieldValues, a_out, a_frameValue, a_frameList, a_frameNext, a_frameBody, a_valueText))
    (h5F : ll_kd T a b = 5 → ¬ ll_dok T a b → post 0 (f_openMarkLength, f_closeMarkLength, f_openCount, f_compileFrom, f_compileTo, f_valueCount, f_outCap, f_outCount, f_frameCount, f_valueTextLength, f_renderAt, f_renderTo, f_returnAt, f_finished, f_overflowed, a_text, a_cellKind, a_cellName, a_tagEnd, a_sectionEnd, a_textLength, a_slotStatus, a_slotError, a_openMark, a_closeMark, a_openTags, a_valueKind, a_amount, a_parts, a_fieldValues, a_out, a_frameValue, a_frameList, a_frameNext, a_frameBody, a_valueText))
    (hnT : ll_kd T a b ≠ 4 → ll_kd T a b ≠ 5 → ll_ok T a b → post 1 (f_openMarkLength, f_closeMarkLength, f_openCount, f_compileFrom, f_compileTo, f_valueCount, f_outCap, f_outCount, f_frameCount, f_valueTextLength, f_renderAt, f_renderTo, f_returnAt, f_finished, f_overflowed, a_text, a_cellKind, upd a_cellName (s * 96 + q) (ll_na T a b), a_tagEnd, a_sectionEnd, a_textLength, a_slotStatus, a_slotError, a_openMark, a_closeMark, a_openTags, a_valueKind, a_amount, a_parts, a_fieldValues, a_out, a_frameValue, a_frameList, a_frameNext, a_frameBody, a_valueText))
    (hnF : ll_kd T a b ≠ 4 → ll_kd T a b ≠ 5 → ¬ ll_ok T a b → post 0 (f_openMarkLength, f_closeMarkLength, f_openCount, f_compileFrom, f_compileTo, f_valueCount, f_outCap, f_outCount, f_frameCount, f_valueTextLength, f_renderAt, f_renderTo, f_returnAt, f_finished, f_overflowed, a_text, a_cellKind, upd a_cellName (s * 96 + q) (ll_na T a b), a_tagEnd, a_sectionEnd, a_textLength, a_slotStatus, a_slotError, a_openMark, a_closeMark, a_openTags, a_valueKind, a_amount, a_parts, a_fieldValues, a_out, a_frameValue, a_frameList, a_frameNext, a_frameBody, a_valueText)) :
    wpX_readContent post (f_openMarkLength, f_closeMarkLength, f_openCount, f_compileFrom, f_compileTo, f_valueCount, f_outCap, f_outCount, f_frameCount, f_valueTextLength, f_renderAt, f_renderTo, f_returnAt, f_finished, f_overflowed, a_text, a_cellKind, a_cellName, a_tagEnd, a_sectionEnd, a_textLength, a_slotStatus, a_slotError, a_openMark, a_closeMark, a_openTags, a_valueKind, a_amount, a_parts, a_fieldValues, a_out, a_frameValue, a_frameList, a_frameNext, a_frameBody, a_valueText) (nI (s * 96 + q)) (nI (s * 96 + a)) (nI (s * 96 + b)) := by
  have kb := ll_kd_b T a b
  unfold wpX_readContent
  refine ⟨vp_in_nI (by omega) (by omega), nm_r (e' := nI (ll_kd T a b)) (by rw [nI_clamp (by omega)]; exact hK) ?_⟩
  refine pk_eq (ll_kd T a b) 4 h4 (fun n4 => pk_eq (ll_kd T a b) 5 (fun k5 => ?_) (fun n5 => ?_))
  · exact xl_sw hs hT hb hab (fun y => ⟨rfl, h5F k5 y⟩) (fun y => ⟨rfl, h5T k5 y⟩)
  · have okE : ll_ok T a b ↔ ((ll_kd T a b = 9 → 49 ≤ ll_na T a b ∧ ll_na T a b ≤ 51) ∧ (ll_kd T a b ≠ 9 → ll_nm (ll_na T a b))) := by
      unfold ll_ok
      rw [if_neg n4, if_neg n5]
      by_cases z : ll_kd T a b = 9
      · rw [if_pos z]
        exact ⟨fun y => ⟨fun _ => y, fun w => absurd z w⟩, fun y => y.1 z⟩
      · rw [if_neg z]
        exact ⟨fun y => ⟨fun w => absurd w z, fun _ => y⟩, fun y => y.2 z⟩
    refine pk_eq (ll_kd T a b) 2 (fun k2 => ?_) (fun n2 => ?_)
    · have e : ll_na T a b = ll_on T a b := by unfold ll_na; rw [if_pos k2]
      rw [e] at okE hnT hnF
      exact xl_rc43 hs hT hb hab hq (by omega) (fun x y => hnT n4 n5 (okE.mpr ⟨x, y⟩)) (fun x => hnF n4 n5 (fun y => x (okE.mp y)))
    · have e : ll_na T a b = ll_on T (a + 1) b := by unfold ll_na; rw [if_neg n2]
      have hlt : a + 1 ≤ b := by
        by_cases w : a < b
        · omega
        · exact absurd (by unfold ll_kd; rw [if_neg w]) n2
      rw [e] at okE hnT hnF
      rw [nI_1]
      exact xl_rc43 hs hT hb hlt hq (by omega) (fun x y => hnT n4 n5 (okE.mpr ⟨x, y⟩)) (fun x => hnF n4 n5 (fun y => x (okE.mp y)))
/-- the last end of a removal -/
def rm_e (T : Nat → Int32) (n e : Nat) : Nat := if ll_sp T (n - e) e < n then ll_sp T (n - e) e + 1 else n
theorem xl_rm142 {post : SX → Prop} {x e hi : Nat} (hs : s < 4) (hn : n ≤ 96) (hxn : x ≤ n) (he : e ≤ hi) (hx : hi = (if x < n then x + 1 else n)) (h : post (f_openMarkLength, f_closeMarkLength, f_openCount, f_compileFrom, nI (s * 96 + n), f_valueCount, f_outCap, f_outCount, f_frameCount, f_valueTextLength, f_renderAt, f_renderTo, f_returnAt, f_finished, f_overflowed, a_text, fl_f a_cellKind (s * 96 + e) (s * 96 + hi) 1, a_cellName, a_tagEnd, a_sectionEnd, a_textLength, a_slotStatus, a_slotError, a_openMark, a_closeMark, a_openTags, a_valueKind, a_amount, a_parts, a_fieldValues, a_out, a_frameValue, a_frameList, a_frameNext, a_frameBody, a_valueText)) : ∀ d i, i + d = hi → e ≤ i → wX_removeLineOf_142 post (nI (s * 96 + x)) f_openMarkLength f_closeMarkLength f_openCount f_compileFrom (nI (s * 96 + n)) f_valueCount f_outCap f_outCount f_frameCount f_valueTextLength f_renderAt f_renderTo f_returnAt f_finished f_overflowed (d + 1) (nI (s * 96 + i)) a_text (fl_f a_cellKind (s * 96 + e) (s * 96 + i) 1) a_cellName a_tagEnd a_sectionEnd a_textLength a_slotStatus a_slotError a_openMark a_closeMark a_openTags a_valueKind a_amount a_parts a_fieldValues a_out a_frameValue a_frameList a_frameNext a_frameBody a_valueText := by
  have hx2 : (x < n ∧ hi = x + 1) ∨ (n ≤ x ∧ hi = n) := by
    by_cases w : x < n
    · rw [if_pos w] at hx; omega
    · rw [if_neg w] at hx; omega
  intro d
  induction d with
  | zero =>
    intro i hi' hei
    have e2 : i = hi := by omega
    subst e2
    rcases hx2 with ⟨a, b⟩ | ⟨a, b⟩
    · exact br_t (nI_lt (by omega) (by omega)) h
    · by_cases w : x < i
      · exact br_t (nI_lt (by omega) (by omega)) h
      · exact br_f (nI_nlt (by omega) (by omega)) (br_t (nI_le (by omega) (by omega)) h)
  | succ d ih =>
    intro i hi' hei
    refine br_f (nI_nlt (by omega) (by omega)) (br_f (nI_ge (by omega) (by omega)) ⟨vp_in_nI (by omega) (by omega), nm_r ?_ (nm_r (nI_1 _) (ih (i + 1) (by omega) (by omega)))⟩)
    rw [nI_clamp (by omega)]
    exact fl_s (by omega)
theorem xl_rm114 {post : SX → Prop} {x lo e hi : Nat} (hs : s < 4) (hn : n ≤ 96) (hxn : x ≤ n) (hq : q < 96) (hlo : lo ≤ q) (he : e ≤ hi) (hx : hi = (if x < n then x + 1 else n)) (hE : a_tagEnd (s * 96 + q) = nI (s * 96 + e)) (h : post (f_openMarkLength, f_closeMarkLength, f_openCount, f_compileFrom, nI (s * 96 + n), f_valueCount, f_outCap, f_outCount, f_frameCount, f_valueTextLength, f_renderAt, f_renderTo, f_returnAt, f_finished, f_overflowed, a_text, fl_f (fl_f a_cellKind (s * 96 + lo) (s * 96 + q) 1) (s * 96 + e) (s * 96 + hi) 1, a_cellName, a_tagEnd, a_sectionEnd, a_textLength, a_slotStatus, a_slotError, a_openMark, a_closeMark, a_openTags, a_valueKind, a_amount, a_parts, a_fieldValues, a_out, a_frameValue, a_frameList, a_frameNext, a_frameBody, a_valueText)) : ∀ d i, i + d = q → lo ≤ i → wX_removeLineOf_114 post (nI (s * 96 + q)) (nI (s * 96 + x)) f_openMarkLength f_closeMarkLength f_openCount f_compileFrom (nI (s * 96 + n)) f_valueCount f_outCap f_outCount f_frameCount f_valueTextLength f_renderAt f_renderTo f_returnAt f_finished f_overflowed (d + 1) (nI (s * 96 + i)) a_text (fl_f a_cellKind (s * 96 + lo) (s * 96 + i) 1) a_cellName a_tagEnd a_sectionEnd a_textLength a_slotStatus a_slotError a_openMark a_closeMark a_openTags a_valueKind a_amount a_parts a_fieldValues a_out a_frameValue a_frameList a_frameNext a_frameBody a_valueText := by
  intro d
  induction d with
  | zero =>
    intro i hi' hei
    have e2 : i = q := by omega
    subst e2
    have r := xl_rm142 (f_openMarkLength := f_openMarkLength) (f_closeMarkLength := f_closeMarkLength) (f_openCount := f_openCount) (f_compileFrom := f_compileFrom) (f_valueCount := f_valueCount) (f_outCap := f_outCap) (f_outCount := f_outCount) (f_frameCount := f_frameCount) (f_valueTextLength := f_valueTextLength) (f_renderAt := f_renderAt) (f_renderTo := f_renderTo) (f_returnAt := f_returnAt) (f_finished := f_finished) (f_overflowed := f_overflowed) (a_text := a_text) (a_cellKind := fl_f a_cellKind (s * 96 + lo) (s * 96 + i) 1) (a_cellName := a_cellName) (a_tagEnd := a_tagEnd) (a_sectionEnd := a_sectionEnd) (a_textLength := a_textLength) (a_slotStatus := a_slotStatus) (a_slotError := a_slotError) (a_openMark := a_openMark) (a_closeMark := a_closeMark) (a_openTags := a_openTags) (a_valueKind := a_valueKind) (a_amount := a_amount) (a_parts := a_parts) (a_fieldValues := a_fieldValues) (a_out := a_out) (a_frameValue := a_frameValue) (a_frameList := a_frameList) (a_frameNext := a_frameNext) (a_frameBody := a_frameBody) (a_valueText := a_valueText) (post := post) (n := n) (x := x) (e := e) (hi := hi) hs hn hxn he hx h (hi - e) e (by omega) (Nat.le_refl _)
    rw [fl_0 (Nat.le_refl _)] at r
    exact br_t (nI_le (by omega) (by omega)) ⟨vp_in_nI (by omega) (by omega), nm_r (by rw [nI_clamp (by omega)]; exact hE) ⟨_, r⟩⟩
  | succ d ih =>
    intro i hi' hei
    refine br_f (nI_ge (by omega) (by omega)) ⟨vp_in_nI (by omega) (by omega), nm_r ?_ (nm_r (nI_1 _) (ih (i + 1) (by omega) (by omega)))⟩
    rw [nI_clamp (by omega)]
    exact fl_s (by omega)
def rm_l (T : Nat → Int32) (q : Nat) : Prop := ll_sb T q q = 0 ∨ T (ll_sb T q q - 1) = 10
def rm_r (T : Nat → Int32) (n e : Nat) : Prop := ll_sp T (n - e) e = n ∨ T (ll_sp T (n - e) e) = 10
theorem xl_98 {post : SX → Prop} {e : Nat} {x5 z0 : Int32} (hs : s < 4) (hn : n ≤ 96) (hq : q < e) (he : e ≤ n) (hE : a_tagEnd (s * 96 + q) = nI (s * 96 + e))
    (h0 : x5 = 0 ∨ z0 = 0 → post (f_openMarkLength, f_closeMarkLength, f_openCount, f_compileFrom, nI (s * 96 + n), f_valueCount, f_outCap, f_outCount, f_frameCount, f_valueTextLength, f_renderAt, f_renderTo, f_returnAt, f_finished, f_overflowed, a_text, a_cellKind, a_cellName, a_tagEnd, a_sectionEnd, a_textLength, a_slotStatus, a_slotError, a_openMark, a_closeMark, a_openTags, a_valueKind, a_amount, a_parts, a_fieldValues, a_out, a_frameValue, a_frameList, a_frameNext, a_frameBody, a_valueText))
    (h1 : ¬ x5 = 0 → ¬ z0 = 0 → post (f_openMarkLength, f_closeMarkLength, f_openCount, f_compileFrom, nI (s * 96 + n), f_valueCount, f_outCap, f_outCount, f_frameCount, f_valueTextLength, f_renderAt, f_renderTo, f_returnAt, f_finished, f_overflowed, a_text, fl_f (fl_f a_cellKind (s * 96 + ll_sb T q q) (s * 96 + q) 1) (s * 96 + e) (s * 96 + rm_e T n e) 1, a_cellName, a_tagEnd, a_sectionEnd, a_textLength, a_slotStatus, a_slotError, a_openMark, a_closeMark, a_openTags, a_valueKind, a_amount, a_parts, a_fieldValues, a_out, a_frameValue, a_frameList, a_frameNext, a_frameBody, a_valueText)) :
    wX_removeLineOf_98 post (nI (s * 96 + q)) (nI (s * 96 + ll_sb T q q)) (nI (s * 96 + ll_sp T (n - e) e)) x5 z0 f_openMarkLength f_closeMarkLength f_openCount f_compileFrom (nI (s * 96 + n)) f_valueCount f_outCap f_outCount f_frameCount f_valueTextLength f_renderAt f_renderTo f_returnAt f_finished f_overflowed a_text a_cellKind a_cellName a_tagEnd a_sectionEnd a_textLength a_slotStatus a_slotError a_openMark a_closeMark a_openTags a_valueKind a_amount a_parts a_fieldValues a_out a_frameValue a_frameList a_frameNext a_frameBody a_valueText := by
  have b1 := ll_sb_b (T := T) q q (Nat.le_refl _)
  have b2 := ll_sp_b (T := T) (n - e) e
  refine br_c (fun y => h0 (Or.inl y)) (fun y => br_c (fun z => h0 (Or.inr z)) (fun z => ?_))
  have r := xl_rm114 (f_openMarkLength := f_openMarkLength) (f_closeMarkLength := f_closeMarkLength) (f_openCount := f_openCount) (f_compileFrom := f_compileFrom) (f_valueCount := f_valueCount) (f_outCap := f_outCap) (f_outCount := f_outCount) (f_frameCount := f_frameCount) (f_valueTextLength := f_valueTextLength) (f_renderAt := f_renderAt) (f_renderTo := f_renderTo) (f_returnAt := f_returnAt) (f_finished := f_finished) (f_overflowed := f_overflowed) (a_text := a_text) (a_cellKind := a_cellKind) (a_cellName := a_cellName) (a_tagEnd := a_tagEnd) (a_sectionEnd := a_sectionEnd) (a_textLength := a_textLength) (a_slotStatus := a_slotStatus) (a_slotError := a_slotError) (a_openMark := a_openMark) (a_closeMark := a_closeMark) (a_openTags := a_openTags) (a_valueKind := a_valueKind) (a_amount := a_amount) (a_parts := a_parts) (a_fieldValues := a_fieldValues) (a_out := a_out) (a_frameValue := a_frameValue) (a_frameList := a_frameList) (a_frameNext := a_frameNext) (a_frameBody := a_frameBody) (a_valueText := a_valueText) (post := post) (n := n) (q := q) (x := ll_sp T (n - e) e) (lo := ll_sb T q q) (e := e) (hi := rm_e T n e) hs hn (by omega) (by omega) b1.2 (by unfold rm_e; split <;> omega) rfl hE (h1 y z) (q - ll_sb T q q) (ll_sb T q q) (by omega) (Nat.le_refl _)
  rw [fl_0 (Nat.le_refl _)] at r
  exact ⟨_, r⟩
theorem xl_70 {post : SX → Prop} {e : Nat} {z0 : Int32} (hs : s < 4) (hT : ∀ i, i < 96 → a_text (s * 96 + i) = T i) (hn : n ≤ 96) (hq : q < e) (he : e ≤ n) (hE : a_tagEnd (s * 96 + q) = nI (s * 96 + e))
    (h0 : z0 = 0 ∨ ¬ rm_r T n e → post (f_openMarkLength, f_closeMarkLength, f_openCount, f_compileFrom, nI (s * 96 + n), f_valueCount, f_outCap, f_outCount, f_frameCount, f_valueTextLength, f_renderAt, f_renderTo, f_returnAt, f_finished, f_overflowed, a_text, a_cellKind, a_cellName, a_tagEnd, a_sectionEnd, a_textLength, a_slotStatus, a_slotError, a_openMark, a_closeMark, a_openTags, a_valueKind, a_amount, a_parts, a_fieldValues, a_out, a_frameValue, a_frameList, a_frameNext, a_frameBody, a_valueText))
    (h1 : ¬ z0 = 0 → rm_r T n e → post (f_openMarkLength, f_closeMarkLength, f_openCount, f_compileFrom, nI (s * 96 + n), f_valueCount, f_outCap, f_outCount, f_frameCount, f_valueTextLength, f_renderAt, f_renderTo, f_returnAt, f_finished, f_overflowed, a_text, fl_f (fl_f a_cellKind (s * 96 + ll_sb T q q) (s * 96 + q) 1) (s * 96 + e) (s * 96 + rm_e T n e) 1, a_cellName, a_tagEnd, a_sectionEnd, a_textLength, a_slotStatus, a_slotError, a_openMark, a_closeMark, a_openTags, a_valueKind, a_amount, a_parts, a_fieldValues, a_out, a_frameValue, a_frameList, a_frameNext, a_frameBody, a_valueText)) :
    wX_removeLineOf_70 post (nI (s * 96 + q)) (nI (s * 96 + ll_sb T q q)) (nI (s * 96 + ll_sp T (n - e) e)) z0 f_openMarkLength f_closeMarkLength f_openCount f_compileFrom (nI (s * 96 + n)) f_valueCount f_outCap f_outCount f_frameCount f_valueTextLength f_renderAt f_renderTo f_returnAt f_finished f_overflowed a_text a_cellKind a_cellName a_tagEnd a_sectionEnd a_textLength a_slotStatus a_slotError a_openMark a_closeMark a_openTags a_valueKind a_amount a_parts a_fieldValues a_out a_frameValue a_frameList a_frameNext a_frameBody a_valueText := by
  have b2 := ll_sp_b (T := T) (n - e) e
  have yes : rm_r T n e → wX_removeLineOf_93 post (nI (s * 96 + q)) (nI (s * 96 + ll_sb T q q)) (nI (s * 96 + ll_sp T (n - e) e)) z0 f_openMarkLength f_closeMarkLength f_openCount f_compileFrom (nI (s * 96 + n)) f_valueCount f_outCap f_outCount f_frameCount f_valueTextLength f_renderAt f_renderTo f_returnAt f_finished f_overflowed a_text a_cellKind a_cellName a_tagEnd a_sectionEnd a_textLength a_slotStatus a_slotError a_openMark a_closeMark a_openTags a_valueKind a_amount a_parts a_fieldValues a_out a_frameValue a_frameList a_frameNext a_frameBody a_valueText := fun w => xl_98 hs hn hq he hE (fun y => by
    rcases y with y | y
    · exact h0 (Or.inl y)
    · exact absurd y (by decide)) (fun y _ => h1 y w)
  refine pk_eq (s * 96 + ll_sp T (n - e) e) (s * 96 + n) (fun y => yes (Or.inl (by omega))) (fun y => ⟨vp_in_nI (by omega) (by omega), ?_⟩)
  have e2 : a_text (nI (s * 96 + ll_sp T (n - e) e)).toNatClampNeg = T (ll_sp T (n - e) e) := by rw [nI_clamp (by omega), hT _ (by omega)]
  refine br_c (fun w => yes (Or.inr (e2.symm.trans w))) (fun w => xl_98 hs hn hq he hE (fun _ => h0 (Or.inr (fun z => ?_))) (fun _ z => absurd rfl z))
  rcases z with z | z
  · omega
  · exact w (e2.trans z)
theorem xl_rm {post : SX → Prop} {e k : Nat} (hs : s < 4) (hT : ∀ i, i < 96 → a_text (s * 96 + i) = T i) (hn : n ≤ 96) (hq : q < e) (he : e ≤ n) (hK : a_cellKind (s * 96 + q) = nI k) (hk : k ≤ 9) (hE : a_tagEnd (s * 96 + q) = nI (s * 96 + e))
    (h0 : k = 2 ∨ k = 3 ∨ ¬ rm_l T q ∨ ¬ rm_r T n e → post (f_openMarkLength, f_closeMarkLength, f_openCount, nI (s * 96), nI (s * 96 + n), f_valueCount, f_outCap, f_outCount, f_frameCount, f_valueTextLength, f_renderAt, f_renderTo, f_returnAt, f_finished, f_overflowed, a_text, a_cellKind, a_cellName, a_tagEnd, a_sectionEnd, a_textLength, a_slotStatus, a_slotError, a_openMark, a_closeMark, a_openTags, a_valueKind, a_amount, a_parts, a_fieldValues, a_out, a_frameValue, a_frameList, a_frameNext, a_frameBody, a_valueText))
    (h1 : k ≠ 2 → k ≠ 3 → rm_l T q → rm_r T n e → post (f_openMarkLength, f_closeMarkLength, f_openCount, nI (s * 96), nI (s * 96 + n), f_valueCount, f_outCap, f_outCount, f_frameCount, f_valueTextLength, f_renderAt, f_renderTo, f_returnAt, f_finished, f_overflowed, a_text, fl_f (fl_f a_cellKind (s * 96 + ll_sb T q q) (s * 96 + q) 1) (s * 96 + e) (s * 96 + rm_e T n e) 1, a_cellName, a_tagEnd, a_sectionEnd, a_textLength, a_slotStatus, a_slotError, a_openMark, a_closeMark, a_openTags, a_valueKind, a_amount, a_parts, a_fieldValues, a_out, a_frameValue, a_frameList, a_frameNext, a_frameBody, a_valueText)) :
    wpX_removeLineOf post (f_openMarkLength, f_closeMarkLength, f_openCount, nI (s * 96), nI (s * 96 + n), f_valueCount, f_outCap, f_outCount, f_frameCount, f_valueTextLength, f_renderAt, f_renderTo, f_returnAt, f_finished, f_overflowed, a_text, a_cellKind, a_cellName, a_tagEnd, a_sectionEnd, a_textLength, a_slotStatus, a_slotError, a_openMark, a_closeMark, a_openTags, a_valueKind, a_amount, a_parts, a_fieldValues, a_out, a_frameValue, a_frameList, a_frameNext, a_frameBody, a_valueText) (nI (s * 96 + q)) := by
  have b1 := ll_sb_b (T := T) q q (Nat.le_refl _)
  unfold wpX_removeLineOf
  refine ⟨vp_in_nI (by omega) (by omega), nm_r (e' := nI k) (by rw [nI_clamp (by omega)]; exact hK) ?_⟩
  refine pk_eq k 2 (fun y => h0 (Or.inl y)) (fun n2 => pk_eq k 3 (fun y => h0 (Or.inr (Or.inl y))) (fun n3 => ?_))
  refine xl_skipb' (lo := 0) (j := q) hs hT (by omega) (by omega) rfl rfl ⟨vp_in_nI (by omega) (by omega), ?_⟩
  refine xl_skip' (i := e) (e := n) hs hT hn he (by rw [nI_clamp (by omega)]; exact hE) rfl ?_
  have yes : rm_l T q → wX_removeLineOf_65 post (nI (s * 96 + q)) (nI (s * 96 + ll_sb T q q)) (nI (s * 96 + ll_sp T (n - e) e)) f_openMarkLength f_closeMarkLength f_openCount (nI (s * 96)) (nI (s * 96 + n)) f_valueCount f_outCap f_outCount f_frameCount f_valueTextLength f_renderAt f_renderTo f_returnAt f_finished f_overflowed a_text a_cellKind a_cellName a_tagEnd a_sectionEnd a_textLength a_slotStatus a_slotError a_openMark a_closeMark a_openTags a_valueKind a_amount a_parts a_fieldValues a_out a_frameValue a_frameList a_frameNext a_frameBody a_valueText := fun w => xl_70 hs hT hn hq he hE (fun y => by
    rcases y with y | y
    · exact absurd y (by decide)
    · exact h0 (Or.inr (Or.inr (Or.inr y)))) (fun _ y => h1 n2 n3 w y)
  refine pk_eq (s * 96 + ll_sb T q q) (s * 96) (fun y => yes (Or.inl (by omega))) (fun y => ?_)
  have e1 : nI (s * 96 + ll_sb T (q - 0) q) - 1 = nI (s * 96 + (ll_sb T q q - 1)) := by
    show nI (s * 96 + ll_sb T q q) - 1 = _
    rw [la_s (by omega)]; exact congrArg nI (by omega)
  have e2 : a_text (nI (s * 96 + ll_sb T (q - 0) q) - 1).toNatClampNeg = T (ll_sb T q q - 1) := by rw [e1, nI_clamp (by omega), hT _ (by omega)]
  refine ⟨by rw [e1]; exact vp_in_nI (by omega) (by omega), br_c (fun w => yes (Or.inr (e2.symm.trans w))) (fun w => xl_70 hs hT hn hq he hE (fun _ => h0 (Or.inr (Or.inr (Or.inl (fun z => ?_))))) (fun z => absurd rfl z))⟩
  rcases z with z | z
  · omega
  · exact w (e2.trans z)
end TXT
end LLXC
end
section
section LLXT
variable {f_openMarkLength f_closeMarkLength f_openCount f_compileFrom f_compileTo f_valueCount f_outCap f_outCount f_frameCount f_valueTextLength f_renderAt f_renderTo f_returnAt f_finished f_overflowed : Int32} {a_text a_cellKind a_cellName a_tagEnd a_sectionEnd a_textLength a_slotStatus a_slotError a_openMark a_closeMark a_openTags a_valueKind a_amount a_parts a_fieldValues a_out a_frameValue a_frameList a_frameNext a_frameBody a_valueText : Nat → Int32}
theorem xl_kot {post : Int32 → Prop} {c : Int32} (h : post (nI (ll_kc c))) : wpX_kindOfTag post (f_openMarkLength, f_closeMarkLength, f_openCount, f_compileFrom, f_compileTo, f_valueCount, f_outCap, f_outCount, f_frameCount, f_valueTextLength, f_renderAt, f_renderTo, f_returnAt, f_finished, f_overflowed, a_text, a_cellKind, a_cellName, a_tagEnd, a_sectionEnd, a_textLength, a_slotStatus, a_slotError, a_openMark, a_closeMark, a_openTags, a_valueKind, a_amount, a_parts, a_fieldValues, a_out, a_frameValue, a_frameList, a_frameNext, a_frameBody, a_valueText) c := by
  refine br_c (fun z => ?_) (fun a1 => br_c (fun z => ?_) (fun a2 => br_c (fun z => ?_) (fun a3 => br_c (fun z => ?_) (fun a4 => br_c (fun z => ?_) (fun a5 => br_c (fun z => ?_) (fun a6 => br_c (fun z => ?_) (fun a7 => ?_)))))))
  · rw [show ll_kc c = 4 from by subst z; decide] at h; exact h
  · rw [show ll_kc c = 6 from by subst z; decide] at h; exact h
  · rw [show ll_kc c = 3 from by subst z; decide] at h; exact h
  · rw [show ll_kc c = 8 from by subst z; decide] at h; exact h
  · rw [show ll_kc c = 5 from by subst z; decide] at h; exact h
  · rw [show ll_kc c = 9 from by subst z; decide] at h; exact h
  · rw [show ll_kc c = 7 from by subst z; decide] at h; exact h
  · rw [show ll_kc c = 2 from by unfold ll_kc; rw [if_neg a1, if_neg a5, if_neg a2, if_neg a7, if_neg a4, if_neg a3, if_neg a6]] at h; exact h
section TXT
variable {s n q ol cl : Nat} {T : Nat → Int32}
theorem xl_findE_openMark {post : Int32 → Prop} {l x : Nat} {r : Option Nat} {y : Int32} (hs : s < 4) (hT : ∀ i, i < 96 → a_text (s * 96 + i) = T i) (hl : l ≤ 3) (hn : n ≤ 96) (hx : x ≤ n) (hf : ll_fd T a_openMark l n (n + 1 - x) x = r) (hy : y = nI (s * 96 + x)) (h : post (ll_oI (s * 96) r)) : wpX_findMark__openMark post (f_openMarkLength, f_closeMarkLength, f_openCount, f_compileFrom, nI (s * 96 + n), f_valueCount, f_outCap, f_outCount, f_frameCount, f_valueTextLength, f_renderAt, f_renderTo, f_returnAt, f_finished, f_overflowed, a_text, a_cellKind, a_cellName, a_tagEnd, a_sectionEnd, a_textLength, a_slotStatus, a_slotError, a_openMark, a_closeMark, a_openTags, a_valueKind, a_amount, a_parts, a_fieldValues, a_out, a_frameValue, a_frameList, a_frameNext, a_frameBody, a_valueText) (nI l) y := by
  subst hf hy
  exact xl_find_openMark hs hT hl hn hx h
theorem xl_findE_closeMark {post : Int32 → Prop} {l x : Nat} {r : Option Nat} {y : Int32} (hs : s < 4) (hT : ∀ i, i < 96 → a_text (s * 96 + i) = T i) (hl : l ≤ 3) (hn : n ≤ 96) (hx : x ≤ n) (hf : ll_fd T a_closeMark l n (n + 1 - x) x = r) (hy : y = nI (s * 96 + x)) (h : post (ll_oI (s * 96) r)) : wpX_findMark__closeMark post (f_openMarkLength, f_closeMarkLength, f_openCount, f_compileFrom, nI (s * 96 + n), f_valueCount, f_outCap, f_outCount, f_frameCount, f_valueTextLength, f_renderAt, f_renderTo, f_returnAt, f_finished, f_overflowed, a_text, a_cellKind, a_cellName, a_tagEnd, a_sectionEnd, a_textLength, a_slotStatus, a_slotError, a_openMark, a_closeMark, a_openTags, a_valueKind, a_amount, a_parts, a_fieldValues, a_out, a_frameValue, a_frameList, a_frameNext, a_frameBody, a_valueText) (nI l) y := by
  subst hf hy
  exact xl_find_closeMark hs hT hl hn hx h
theorem xl_rmE {e k : Nat} (hs : s < 4) (hT : ∀ i, i < 96 → a_text (s * 96 + i) = T i) (hn : n ≤ 96) (hq : q < e) (he : e ≤ n) (hK : a_cellKind (s * 96 + q) = nI k) (hk : k ≤ 9) (hE : a_tagEnd (s * 96 + q) = nI (s * 96 + e)) :
    ∃ K' : Nat → Int32, (∀ c, c < n → ((k ≠ 2 ∧ k ≠ 3 ∧ rm_P T n q e c) → K' (s * 96 + c) = 1) ∧ (¬ (k ≠ 2 ∧ k ≠ 3 ∧ rm_P T n q e c) → K' (s * 96 + c) = a_cellKind (s * 96 + c))) ∧ (∀ j, j < s * 96 ∨ s * 96 + 96 ≤ j → K' j = a_cellKind j) ∧
    ∀ post : SX → Prop, post (f_openMarkLength, f_closeMarkLength, f_openCount, nI (s * 96), nI (s * 96 + n), f_valueCount, f_outCap, f_outCount, f_frameCount, f_valueTextLength, f_renderAt, f_renderTo, f_returnAt, f_finished, f_overflowed, a_text, K', a_cellName, a_tagEnd, a_sectionEnd, a_textLength, a_slotStatus, a_slotError, a_openMark, a_closeMark, a_openTags, a_valueKind, a_amount, a_parts, a_fieldValues, a_out, a_frameValue, a_frameList, a_frameNext, a_frameBody, a_valueText) → wpX_removeLineOf post (f_openMarkLength, f_closeMarkLength, f_openCount, nI (s * 96), nI (s * 96 + n), f_valueCount, f_outCap, f_outCount, f_frameCount, f_valueTextLength, f_renderAt, f_renderTo, f_returnAt, f_finished, f_overflowed, a_text, a_cellKind, a_cellName, a_tagEnd, a_sectionEnd, a_textLength, a_slotStatus, a_slotError, a_openMark, a_closeMark, a_openTags, a_valueKind, a_amount, a_parts, a_fieldValues, a_out, a_frameValue, a_frameList, a_frameNext, a_frameBody, a_valueText) (nI (s * 96 + q)) := by
  have b1 := ll_sb_b (T := T) q q (Nat.le_refl _)
  have b2 := ll_sp_b (T := T) (n - e) e
  by_cases z : k ≠ 2 ∧ k ≠ 3 ∧ rm_l T q ∧ rm_r T n e
  · obtain ⟨z1, z2, z3, z4⟩ := z
    have hre : (ll_sp T (n - e) e < n ∧ rm_e T n e = ll_sp T (n - e) e + 1) ∨ (ll_sp T (n - e) e = n ∧ rm_e T n e = n) := by
      unfold rm_e
      by_cases w : ll_sp T (n - e) e < n
      · rw [if_pos w]; exact Or.inl ⟨w, rfl⟩
      · rw [if_neg w]; exact Or.inr ⟨by omega, rfl⟩
    refine ⟨fl_f (fl_f a_cellKind (s * 96 + ll_sb T q q) (s * 96 + q) 1) (s * 96 + e) (s * 96 + rm_e T n e) 1, fun c hc => ⟨fun y => ?_, fun y => ?_⟩, fun j hj => ?_, fun post h => xl_rm hs hT hn hq he hK hk hE (fun y => ?_) (fun _ _ _ _ => h)⟩
    · obtain ⟨_, _, _, _, y⟩ := y
      by_cases w : e ≤ c
      · exact fl_in (by omega) (by omega)
      · rw [fl_out (by omega), fl_in (by omega) (by omega)]
    · have y' : ¬ ((ll_sb T q q ≤ c ∧ c < q) ∨ (e ≤ c ∧ c ≤ ll_sp T (n - e) e ∧ c < n)) := fun w => y ⟨z1, z2, z3, z4, w⟩
      rw [fl_out (by omega), fl_out (by omega)]
    · rw [fl_out (by omega), fl_out (by omega)]
    · rcases y with y | y | y | y
      · exact absurd y z1
      · exact absurd y z2
      · exact absurd z3 y
      · exact absurd z4 y
  · refine ⟨a_cellKind, fun c hc => ⟨fun y => absurd ⟨y.1, y.2.1, y.2.2.1, y.2.2.2.1⟩ z, fun _ => rfl⟩, fun _ _ => rfl, fun post h => xl_rm hs hT hn hq he hK hk hE (fun _ => h) (fun y1 y2 y3 y4 => absurd ⟨y1, y2, y3, y4⟩ z)⟩
/-- no end of the tag -/
theorem xr_A {post : Int32 → SX → Prop} (hs : s < 4) (hT : ∀ i, i < 96 → a_text (s * 96 + i) = T i) (hn : n ≤ 96) (hq : q + ol ≤ n) (hc : cl ≤ 3) (hf : ll_fd T a_closeMark cl n (n + 1 - (q + ol)) (q + ol) = none) (h : post (-3) (nI ol, nI cl, f_openCount, nI (s * 96), nI (s * 96 + n), f_valueCount, f_outCap, f_outCount, f_frameCount, f_valueTextLength, f_renderAt, f_renderTo, f_returnAt, f_finished, f_overflowed, a_text, a_cellKind, a_cellName, a_tagEnd, a_sectionEnd, a_textLength, a_slotStatus, a_slotError, a_openMark, a_closeMark, a_openTags, a_valueKind, a_amount, a_parts, a_fieldValues, a_out, a_frameValue, a_frameList, a_frameNext, a_frameBody, a_valueText)) : wpX_readTag post (nI ol, nI cl, f_openCount, nI (s * 96), nI (s * 96 + n), f_valueCount, f_outCap, f_outCount, f_frameCount, f_valueTextLength, f_renderAt, f_renderTo, f_returnAt, f_finished, f_overflowed, a_text, a_cellKind, a_cellName, a_tagEnd, a_sectionEnd, a_textLength, a_slotStatus, a_slotError, a_openMark, a_closeMark, a_openTags, a_valueKind, a_amount, a_parts, a_fieldValues, a_out, a_frameValue, a_frameList, a_frameNext, a_frameBody, a_valueText) (nI s) (nI (s * 96 + q)) := by
  unfold wpX_readTag
  refine nm_r (e' := nI (s * 96 + (q + ol))) (by rw [nI_add]; exact congrArg nI (by omega)) (xl_findE_closeMark hs hT hc hn hq hf rfl (br_t rfl h))
/-- ahead of the content -/
theorem xr_0 {post : Int32 → SX → Prop} {r : Nat} (hs : s < 4) (hT : ∀ i, i < 96 → a_text (s * 96 + i) = T i) (hn : n ≤ 96) (hq : q + ol ≤ r) (hr : r + cl ≤ n) (hc : cl ≤ 3) (hf : ll_fd T a_closeMark cl n (n + 1 - (q + ol)) (q + ol) = some r) (h1 : 1 ≤ ol + cl)
    (h : wX_readTag_69 post (nI s) (nI (s * 96 + q)) (nI (s * 96 + (q + ol))) (nI (s * 96 + r)) (nI (ll_kd T (q + ol) r)) (nI (s * 96 + q)) (nI ol) (nI cl) f_openCount (nI (s * 96)) (nI (s * 96 + n)) f_valueCount f_outCap f_outCount f_frameCount f_valueTextLength f_renderAt f_renderTo f_returnAt f_finished f_overflowed a_text a_cellKind a_cellName (upd a_tagEnd (s * 96 + q) (nI (s * 96 + (r + cl)))) a_sectionEnd a_textLength a_slotStatus a_slotError a_openMark a_closeMark a_openTags a_valueKind a_amount a_parts a_fieldValues a_out a_frameValue a_frameList a_frameNext a_frameBody a_valueText) : wpX_readTag post (nI ol, nI cl, f_openCount, nI (s * 96), nI (s * 96 + n), f_valueCount, f_outCap, f_outCount, f_frameCount, f_valueTextLength, f_renderAt, f_renderTo, f_returnAt, f_finished, f_overflowed, a_text, a_cellKind, a_cellName, a_tagEnd, a_sectionEnd, a_textLength, a_slotStatus, a_slotError, a_openMark, a_closeMark, a_openTags, a_valueKind, a_amount, a_parts, a_fieldValues, a_out, a_frameValue, a_frameList, a_frameNext, a_frameBody, a_valueText) (nI s) (nI (s * 96 + q)) := by
  unfold wpX_readTag
  refine nm_r (e' := nI (s * 96 + (q + ol))) (by rw [nI_add]; exact congrArg nI (by omega)) (xl_findE_closeMark hs hT hc hn (by omega) hf rfl (br_f (la_n1 (by omega)) ⟨vp_in_nI (by omega) (by omega), nm_r (e' := upd a_tagEnd (s * 96 + q) (nI (s * 96 + (r + cl)))) ?_ ?_⟩))
  · rw [nI_clamp (by omega), show ll_oI (s * 96) (some r) = nI (s * 96 + r) from rfl, nI_add]
    exact congrArg (fun z => upd a_tagEnd (s * 96 + q) (nI z)) (by omega)
  · refine pk_le (s * 96 + r) (s * 96 + (q + ol)) (fun z => ?_) (fun z => ⟨vp_in_nI (by omega) (by omega), ?_⟩)
    · rw [show ll_kd T (q + ol) r = 2 from by unfold ll_kd; rw [if_neg (by omega)]] at h
      exact h
    · rw [show ll_kd T (q + ol) r = ll_kc (T (q + ol)) from by unfold ll_kd; rw [if_pos (by omega)]] at h
      have e2 : a_text (nI (s * 96 + (q + ol))).toNatClampNeg = T (q + ol) := by rw [nI_clamp (by omega), hT _ (by omega)]
      rw [← e2] at h
      exact xl_kot h
/-- a content that breaks its rule -/
theorem xr_B {r : Nat} (hs : s < 4) (hT : ∀ i, i < 96 → a_text (s * 96 + i) = T i) (hn : n ≤ 96) (hq : q + ol ≤ r) (hr : r + cl ≤ n) (hc : cl ≤ 3) (hf : ll_fd T a_closeMark cl n (n + 1 - (q + ol)) (q + ol) = some r) (h1 : 1 ≤ ol + cl) (hok : ¬ ll_ok T (q + ol) r) :
    ∃ N' : Nat → Int32, (∀ j, j ≠ s * 96 + q → N' j = a_cellName j) ∧ ∀ post : Int32 → SX → Prop, post (-4) (nI ol, nI cl, f_openCount, nI (s * 96), nI (s * 96 + n), f_valueCount, f_outCap, f_outCount, f_frameCount, f_valueTextLength, f_renderAt, f_renderTo, f_returnAt, f_finished, f_overflowed, a_text, upd a_cellKind (s * 96 + q) (nI (ll_kd T (q + ol) r)), N', upd a_tagEnd (s * 96 + q) (nI (s * 96 + (r + cl))), a_sectionEnd, a_textLength, a_slotStatus, a_slotError, a_openMark, a_closeMark, a_openTags, a_valueKind, a_amount, a_parts, a_fieldValues, a_out, a_frameValue, a_frameList, a_frameNext, a_frameBody, a_valueText) → wpX_readTag post (nI ol, nI cl, f_openCount, nI (s * 96), nI (s * 96 + n), f_valueCount, f_outCap, f_outCount, f_frameCount, f_valueTextLength, f_renderAt, f_renderTo, f_returnAt, f_finished, f_overflowed, a_text, a_cellKind, a_cellName, a_tagEnd, a_sectionEnd, a_textLength, a_slotStatus, a_slotError, a_openMark, a_closeMark, a_openTags, a_valueKind, a_amount, a_parts, a_fieldValues, a_out, a_frameValue, a_frameList, a_frameNext, a_frameBody, a_valueText) (nI s) (nI (s * 96 + q)) := by
  by_cases k5 : ll_kd T (q + ol) r = 5
  · refine ⟨a_cellName, fun _ _ => rfl, fun post h => xr_0 hs hT hn hq hr hc hf h1 ⟨vp_in_nI (by omega) (by omega), nm_r (by rw [nI_clamp (by omega)]) ?_⟩⟩
    refine xl_rc hs hT (by omega) hq (by omega) pk_us (fun y => absurd y (by omega)) (fun _ y => absurd ?_ hok) (fun _ _ => br_t rfl h) (fun _ y => absurd k5 y) (fun _ y => absurd k5 y)
    unfold ll_ok
    rw [if_neg (by omega), if_pos k5]
    exact y
  · by_cases k4 : ll_kd T (q + ol) r = 4
    · exact absurd (by unfold ll_ok; rw [if_pos k4]; trivial) hok
    · refine ⟨upd a_cellName (s * 96 + q) (ll_na T (q + ol) r), fun j hj => pk_un hj, fun post h => xr_0 hs hT hn hq hr hc hf h1 ⟨vp_in_nI (by omega) (by omega), nm_r (by rw [nI_clamp (by omega)]) ?_⟩⟩
      exact xl_rc hs hT (by omega) hq (by omega) pk_us (fun y => absurd y k4) (fun y => absurd y k5) (fun y => absurd y k5) (fun _ _ y => absurd y hok) (fun _ _ _ => br_t rfl h)
/-- what X's tables and marks are behind a tag whose content keeps its rule -/
def xr_P (s n q r ol cl e k : Nat) (T K N oM cM K' N' oM' cM' : Nat → Int32) (ol' cl' : Nat) : Prop :=
  K' (s * 96 + q) = nI k ∧ (∀ c, c < n → c ≠ q → ((k ≠ 2 ∧ k ≠ 3 ∧ rm_P T n q e c) → K' (s * 96 + c) = 1) ∧ (¬ (k ≠ 2 ∧ k ≠ 3 ∧ rm_P T n q e c) → K' (s * 96 + c) = K (s * 96 + c))) ∧ (∀ j, j < s * 96 ∨ s * 96 + 96 ≤ j → K' j = K j) ∧
  (∀ j, j ≠ s * 96 + q → N' j = N j) ∧ (k ≠ 4 → k ≠ 5 → N' (s * 96 + q) = ll_na T (q + ol) r) ∧
  (k ≠ 5 → ol' = ol ∧ cl' = cl ∧ oM' = oM ∧ cM' = cM) ∧
  (k = 5 → ol' = ll_de T (q + ol) r - ll_da T (q + ol) r ∧ cl' = ll_dh T (q + ol) r - ll_db T (q + ol) r ∧ (∀ i, i < ol' → oM' i = T (ll_da T (q + ol) r + i)) ∧ (∀ i, i < cl' → cM' i = T (ll_db T (q + ol) r + i)))
theorem xr_C {r : Nat} (hs : s < 4) (hT : ∀ i, i < 96 → a_text (s * 96 + i) = T i) (hn : n ≤ 96) (hq : q + ol ≤ r) (hr : r + cl ≤ n) (hc : cl ≤ 3) (hf : ll_fd T a_closeMark cl n (n + 1 - (q + ol)) (q + ol) = some r) (h1 : 1 ≤ ol + cl) (hok : ll_ok T (q + ol) r) (hT32 : 32 < T q) :
    ∃ (K' N' oM' cM' : Nat → Int32) (ol' cl' : Nat), xr_P s n q r ol cl (r + cl) (ll_kd T (q + ol) r) T a_cellKind a_cellName a_openMark a_closeMark K' N' oM' cM' ol' cl' ∧
    ∀ (rr c' : Int32) (oT' G' : Nat → Int32), (∀ post' : Int32 → SX → Prop, post' rr (nI ol', nI cl', c', nI (s * 96), nI (s * 96 + n), f_valueCount, f_outCap, f_outCount, f_frameCount, f_valueTextLength, f_renderAt, f_renderTo, f_returnAt, f_finished, f_overflowed, a_text, K', N', upd a_tagEnd (s * 96 + q) (nI (s * 96 + (r + cl))), G', a_textLength, a_slotStatus, a_slotError, oM', cM', oT', a_valueKind, a_amount, a_parts, a_fieldValues, a_out, a_frameValue, a_frameList, a_frameNext, a_frameBody, a_valueText) → wpX_nestTag post' (nI ol', nI cl', f_openCount, nI (s * 96), nI (s * 96 + n), f_valueCount, f_outCap, f_outCount, f_frameCount, f_valueTextLength, f_renderAt, f_renderTo, f_returnAt, f_finished, f_overflowed, a_text, K', N', upd a_tagEnd (s * 96 + q) (nI (s * 96 + (r + cl))), a_sectionEnd, a_textLength, a_slotStatus, a_slotError, oM', cM', a_openTags, a_valueKind, a_amount, a_parts, a_fieldValues, a_out, a_frameValue, a_frameList, a_frameNext, a_frameBody, a_valueText) (nI s) (nI (s * 96 + q))) →
      ∀ post : Int32 → SX → Prop, post rr (nI ol', nI cl', c', nI (s * 96), nI (s * 96 + n), f_valueCount, f_outCap, f_outCount, f_frameCount, f_valueTextLength, f_renderAt, f_renderTo, f_returnAt, f_finished, f_overflowed, a_text, K', N', upd a_tagEnd (s * 96 + q) (nI (s * 96 + (r + cl))), G', a_textLength, a_slotStatus, a_slotError, oM', cM', oT', a_valueKind, a_amount, a_parts, a_fieldValues, a_out, a_frameValue, a_frameList, a_frameNext, a_frameBody, a_valueText) → wpX_readTag post (nI ol, nI cl, f_openCount, nI (s * 96), nI (s * 96 + n), f_valueCount, f_outCap, f_outCount, f_frameCount, f_valueTextLength, f_renderAt, f_renderTo, f_returnAt, f_finished, f_overflowed, a_text, a_cellKind, a_cellName, a_tagEnd, a_sectionEnd, a_textLength, a_slotStatus, a_slotError, a_openMark, a_closeMark, a_openTags, a_valueKind, a_amount, a_parts, a_fieldValues, a_out, a_frameValue, a_frameList, a_frameNext, a_frameBody, a_valueText) (nI s) (nI (s * 96 + q)) := by
  have kb := ll_kd_b T (q + ol) r
  have hnot : ¬ (ll_kd T (q + ol) r ≠ 2 ∧ ll_kd T (q + ol) r ≠ 3 ∧ rm_P T n q (r + cl) q) := fun y => by
    rcases rm_ch (by omega) y.2.2 with z | z
    · rw [z] at hT32; exact absurd hT32 (by decide)
    · rw [z] at hT32; exact absurd hT32 (by decide)
  have hqe : q < r + cl := by omega
  have hqn : q < n := by omega
  have fin : ∀ K' : Nat → Int32, (∀ c, c < n → ((ll_kd T (q + ol) r ≠ 2 ∧ ll_kd T (q + ol) r ≠ 3 ∧ rm_P T n q (r + cl) c) → K' (s * 96 + c) = 1) ∧ (¬ (ll_kd T (q + ol) r ≠ 2 ∧ ll_kd T (q + ol) r ≠ 3 ∧ rm_P T n q (r + cl) c) → K' (s * 96 + c) = upd a_cellKind (s * 96 + q) (nI (ll_kd T (q + ol) r)) (s * 96 + c))) → (∀ j, j < s * 96 ∨ s * 96 + 96 ≤ j → K' j = upd a_cellKind (s * 96 + q) (nI (ll_kd T (q + ol) r)) j) → K' (s * 96 + q) = nI (ll_kd T (q + ol) r) ∧ (∀ c, c < n → c ≠ q → ((ll_kd T (q + ol) r ≠ 2 ∧ ll_kd T (q + ol) r ≠ 3 ∧ rm_P T n q (r + cl) c) → K' (s * 96 + c) = 1) ∧ (¬ (ll_kd T (q + ol) r ≠ 2 ∧ ll_kd T (q + ol) r ≠ 3 ∧ rm_P T n q (r + cl) c) → K' (s * 96 + c) = a_cellKind (s * 96 + c))) ∧ (∀ j, j < s * 96 ∨ s * 96 + 96 ≤ j → K' j = a_cellKind j) := by
    intro K' a b
    refine ⟨((a q hqn).2 hnot).trans pk_us, fun c hc' hcq => ⟨(a c hc').1, fun y => ((a c hc').2 y).trans (pk_un (by omega))⟩, fun j hj => (b j hj).trans (pk_un (by omega))⟩
  by_cases k4 : ll_kd T (q + ol) r = 4
  · obtain ⟨K', a1, a2, a3⟩ := xl_rmE (f_openMarkLength := nI ol) (f_closeMarkLength := nI cl) (f_openCount := f_openCount) (f_valueCount := f_valueCount) (f_outCap := f_outCap) (f_outCount := f_outCount) (f_frameCount := f_frameCount) (f_valueTextLength := f_valueTextLength) (f_renderAt := f_renderAt) (f_renderTo := f_renderTo) (f_returnAt := f_returnAt) (f_finished := f_finished) (f_overflowed := f_overflowed) (a_text := a_text) (a_cellKind := upd a_cellKind (s * 96 + q) (nI (ll_kd T (q + ol) r))) (a_cellName := a_cellName) (a_tagEnd := upd a_tagEnd (s * 96 + q) (nI (s * 96 + (r + cl)))) (a_sectionEnd := a_sectionEnd) (a_textLength := a_textLength) (a_slotStatus := a_slotStatus) (a_slotError := a_slotError) (a_openMark := a_openMark) (a_closeMark := a_closeMark) (a_openTags := a_openTags) (a_valueKind := a_valueKind) (a_amount := a_amount) (a_parts := a_parts) (a_fieldValues := a_fieldValues) (a_out := a_out) (a_frameValue := a_frameValue) (a_frameList := a_frameList) (a_frameNext := a_frameNext) (a_frameBody := a_frameBody) (a_valueText := a_valueText) (e := r + cl) (k := ll_kd T (q + ol) r) hs hT hn hqe hr pk_us kb.2 pk_us
    obtain ⟨f1, f2, f3⟩ := fin K' a1 a2
    refine ⟨K', a_cellName, a_openMark, a_closeMark, ol, cl, ⟨f1, f2, f3, fun _ _ => rfl, fun y => absurd k4 y, fun _ => ⟨rfl, rfl, rfl, rfl⟩, fun y => by omega⟩, fun rr c' oT' G' hN post h => xr_0 hs hT hn hq hr hc hf h1 ⟨vp_in_nI (by omega) (by omega), nm_r (by rw [nI_clamp (by omega)]) ?_⟩⟩
    exact xl_rc hs hT (by omega) hq (by omega) pk_us (fun _ => br_f (by decide) (a3 _ (hN _ h))) (fun y => by omega) (fun y => by omega) (fun y => absurd k4 y) (fun y => absurd k4 y)
  · by_cases k5 : ll_kd T (q + ol) r = 5
    · have hd : ll_dok T (q + ol) r := by
        unfold ll_ok at hok
        rw [if_neg k4, if_pos k5] at hok
        exact hok
      obtain ⟨K', a1, a2, a3⟩ := xl_rmE (f_openMarkLength := nI (ll_de T (q + ol) r - ll_da T (q + ol) r)) (f_closeMarkLength := nI (ll_dh T (q + ol) r - ll_db T (q + ol) r)) (f_openCount := f_openCount) (f_valueCount := f_valueCount) (f_outCap := f_outCap) (f_outCount := f_outCount) (f_frameCount := f_frameCount) (f_valueTextLength := f_valueTextLength) (f_renderAt := f_renderAt) (f_renderTo := f_renderTo) (f_returnAt := f_returnAt) (f_finished := f_finished) (f_overflowed := f_overflowed) (a_text := a_text) (a_cellKind := upd a_cellKind (s * 96 + q) (nI (ll_kd T (q + ol) r))) (a_cellName := a_cellName) (a_tagEnd := upd a_tagEnd (s * 96 + q) (nI (s * 96 + (r + cl)))) (a_sectionEnd := a_sectionEnd) (a_textLength := a_textLength) (a_slotStatus := a_slotStatus) (a_slotError := a_slotError) (a_openMark := cy_f a_openMark (fun j => T (ll_da T (q + ol) r + j)) (ll_de T (q + ol) r - ll_da T (q + ol) r)) (a_closeMark := cy_f a_closeMark (fun j => T (ll_db T (q + ol) r + j)) (ll_dh T (q + ol) r - ll_db T (q + ol) r)) (a_openTags := a_openTags) (a_valueKind := a_valueKind) (a_amount := a_amount) (a_parts := a_parts) (a_fieldValues := a_fieldValues) (a_out := a_out) (a_frameValue := a_frameValue) (a_frameList := a_frameList) (a_frameNext := a_frameNext) (a_frameBody := a_frameBody) (a_valueText := a_valueText) (e := r + cl) (k := ll_kd T (q + ol) r) hs hT hn hqe hr pk_us kb.2 pk_us
      obtain ⟨f1, f2, f3⟩ := fin K' a1 a2
      refine ⟨K', a_cellName, cy_f a_openMark (fun j => T (ll_da T (q + ol) r + j)) (ll_de T (q + ol) r - ll_da T (q + ol) r), cy_f a_closeMark (fun j => T (ll_db T (q + ol) r + j)) (ll_dh T (q + ol) r - ll_db T (q + ol) r), _, _, ⟨f1, f2, f3, fun _ _ => rfl, fun _ y => absurd k5 y, fun y => absurd k5 y, fun _ => ⟨rfl, rfl, fun i hi => cy_in hi, fun i hi => cy_in hi⟩⟩, fun rr c' oT' G' hN post h => xr_0 hs hT hn hq hr hc hf h1 ⟨vp_in_nI (by omega) (by omega), nm_r (by rw [nI_clamp (by omega)]) ?_⟩⟩
      exact xl_rc hs hT (by omega) hq (by omega) pk_us (fun y => absurd y k4) (fun _ _ => br_f (by decide) (a3 _ (hN _ h))) (fun _ y => absurd hd y) (fun _ y => absurd k5 y) (fun _ y => absurd k5 y)
    · obtain ⟨K', a1, a2, a3⟩ := xl_rmE (f_openMarkLength := nI ol) (f_closeMarkLength := nI cl) (f_openCount := f_openCount) (f_valueCount := f_valueCount) (f_outCap := f_outCap) (f_outCount := f_outCount) (f_frameCount := f_frameCount) (f_valueTextLength := f_valueTextLength) (f_renderAt := f_renderAt) (f_renderTo := f_renderTo) (f_returnAt := f_returnAt) (f_finished := f_finished) (f_overflowed := f_overflowed) (a_text := a_text) (a_cellKind := upd a_cellKind (s * 96 + q) (nI (ll_kd T (q + ol) r))) (a_cellName := upd a_cellName (s * 96 + q) (ll_na T (q + ol) r)) (a_tagEnd := upd a_tagEnd (s * 96 + q) (nI (s * 96 + (r + cl)))) (a_sectionEnd := a_sectionEnd) (a_textLength := a_textLength) (a_slotStatus := a_slotStatus) (a_slotError := a_slotError) (a_openMark := a_openMark) (a_closeMark := a_closeMark) (a_openTags := a_openTags) (a_valueKind := a_valueKind) (a_amount := a_amount) (a_parts := a_parts) (a_fieldValues := a_fieldValues) (a_out := a_out) (a_frameValue := a_frameValue) (a_frameList := a_frameList) (a_frameNext := a_frameNext) (a_frameBody := a_frameBody) (a_valueText := a_valueText) (e := r + cl) (k := ll_kd T (q + ol) r) hs hT hn hqe hr pk_us kb.2 pk_us
      obtain ⟨f1, f2, f3⟩ := fin K' a1 a2
      refine ⟨K', upd a_cellName (s * 96 + q) (ll_na T (q + ol) r), a_openMark, a_closeMark, ol, cl, ⟨f1, f2, f3, fun j hj => pk_un hj, fun _ _ => pk_us, fun _ => ⟨rfl, rfl, rfl, rfl⟩, fun y => absurd y k5⟩, fun rr c' oT' G' hN post h => xr_0 hs hT hn hq hr hc hf h1 ⟨vp_in_nI (by omega) (by omega), nm_r (by rw [nI_clamp (by omega)]) ?_⟩⟩
      exact xl_rc hs hT (by omega) hq (by omega) pk_us (fun y => absurd y k4) (fun y => absurd y k5) (fun y => absurd y k5) (fun _ _ _ => br_f (by decide) (a3 _ (hN _ h))) (fun _ _ y => absurd hok y)
end TXT
/-! the nesting -/
section NEST
variable {s q L : Nat}
theorem xn_beg {post : Int32 → SX → Prop} {k : Nat} (hs : s < 4) (hq : q < 96) (hL : L ≤ 2) (hK : a_cellKind (s * 96 + q) = nI k) (hk : k = 6 ∨ k = 7) (h1 : L < 2 → post 0 (f_openMarkLength, f_closeMarkLength, nI (L + 1), f_compileFrom, f_compileTo, f_valueCount, f_outCap, f_outCount, f_frameCount, f_valueTextLength, f_renderAt, f_renderTo, f_returnAt, f_finished, f_overflowed, a_text, a_cellKind, a_cellName, a_tagEnd, a_sectionEnd, a_textLength, a_slotStatus, a_slotError, a_openMark, a_closeMark, upd a_openTags L (nI (s * 96 + q)), a_valueKind, a_amount, a_parts, a_fieldValues, a_out, a_frameValue, a_frameList, a_frameNext, a_frameBody, a_valueText)) (h0 : 2 ≤ L → post (-5) (f_openMarkLength, f_closeMarkLength, nI L, f_compileFrom, f_compileTo, f_valueCount, f_outCap, f_outCount, f_frameCount, f_valueTextLength, f_renderAt, f_renderTo, f_returnAt, f_finished, f_overflowed, a_text, a_cellKind, a_cellName, a_tagEnd, a_sectionEnd, a_textLength, a_slotStatus, a_slotError, a_openMark, a_closeMark, a_openTags, a_valueKind, a_amount, a_parts, a_fieldValues, a_out, a_frameValue, a_frameList, a_frameNext, a_frameBody, a_valueText)) : wpX_nestTag post (f_openMarkLength, f_closeMarkLength, nI L, f_compileFrom, f_compileTo, f_valueCount, f_outCap, f_outCount, f_frameCount, f_valueTextLength, f_renderAt, f_renderTo, f_returnAt, f_finished, f_overflowed, a_text, a_cellKind, a_cellName, a_tagEnd, a_sectionEnd, a_textLength, a_slotStatus, a_slotError, a_openMark, a_closeMark, a_openTags, a_valueKind, a_amount, a_parts, a_fieldValues, a_out, a_frameValue, a_frameList, a_frameNext, a_frameBody, a_valueText) (nI s) (nI (s * 96 + q)) := by
  have key : wX_nestTag_19 post (nI (s * 96 + q)) f_openMarkLength f_closeMarkLength (nI L) f_compileFrom f_compileTo f_valueCount f_outCap f_outCount f_frameCount f_valueTextLength f_renderAt f_renderTo f_returnAt f_finished f_overflowed a_text a_cellKind a_cellName a_tagEnd a_sectionEnd a_textLength a_slotStatus a_slotError a_openMark a_closeMark a_openTags a_valueKind a_amount a_parts a_fieldValues a_out a_frameValue a_frameList a_frameNext a_frameBody a_valueText := by
    unfold wX_nestTag_19 wpX_openSection
    refine pk_lt L 2 (fun z => ⟨vp_in_nI (by omega) (by omega), nm_r (by rw [nI_clamp (by omega)]) (nm_r (nI_1 _) (h1 z))⟩) h0
  unfold wpX_nestTag
  refine ⟨vp_in_nI (by omega) (by omega), nm_r (e' := nI k) (by rw [nI_clamp (by omega)]; exact hK) ?_⟩
  exact pk_eq k 6 (fun _ => key) (fun y => br_t (by rw [show k = 7 from by omega]; rfl) key)
theorem xn_end0 {post : Int32 → SX → Prop} (hs : s < 4) (hq : q < 96) (hK : a_cellKind (s * 96 + q) = nI 8) (h0 : post (-5) (f_openMarkLength, f_closeMarkLength, nI 0, f_compileFrom, f_compileTo, f_valueCount, f_outCap, f_outCount, f_frameCount, f_valueTextLength, f_renderAt, f_renderTo, f_returnAt, f_finished, f_overflowed, a_text, a_cellKind, a_cellName, a_tagEnd, a_sectionEnd, a_textLength, a_slotStatus, a_slotError, a_openMark, a_closeMark, a_openTags, a_valueKind, a_amount, a_parts, a_fieldValues, a_out, a_frameValue, a_frameList, a_frameNext, a_frameBody, a_valueText)) : wpX_nestTag post (f_openMarkLength, f_closeMarkLength, nI 0, f_compileFrom, f_compileTo, f_valueCount, f_outCap, f_outCount, f_frameCount, f_valueTextLength, f_renderAt, f_renderTo, f_returnAt, f_finished, f_overflowed, a_text, a_cellKind, a_cellName, a_tagEnd, a_sectionEnd, a_textLength, a_slotStatus, a_slotError, a_openMark, a_closeMark, a_openTags, a_valueKind, a_amount, a_parts, a_fieldValues, a_out, a_frameValue, a_frameList, a_frameNext, a_frameBody, a_valueText) (nI s) (nI (s * 96 + q)) := by
  unfold wpX_nestTag
  refine ⟨vp_in_nI (by omega) (by omega), nm_r (e' := nI 8) (by rw [nI_clamp (by omega)]; exact hK) (br_f (by decide) (br_f (by decide) (br_t rfl ?_)))⟩
  unfold wpX_closeSection
  exact br_t rfl h0
theorem xn_end {post : Int32 → SX → Prop} {p e : Nat} (hs : s < 4) (hq : q < 96) (hp : p < 96) (hL : L < 2) (hK : a_cellKind (s * 96 + q) = nI 8) (hE : a_tagEnd (s * 96 + q) = nI (s * 96 + e)) (hO : a_openTags L = nI (s * 96 + p)) (h1 : a_cellName (s * 96 + p) = a_cellName (s * 96 + q) → post 0 (f_openMarkLength, f_closeMarkLength, nI L, f_compileFrom, f_compileTo, f_valueCount, f_outCap, f_outCount, f_frameCount, f_valueTextLength, f_renderAt, f_renderTo, f_returnAt, f_finished, f_overflowed, a_text, a_cellKind, a_cellName, a_tagEnd, upd a_sectionEnd (s * 96 + p) (nI (s * 96 + e)), a_textLength, a_slotStatus, a_slotError, a_openMark, a_closeMark, a_openTags, a_valueKind, a_amount, a_parts, a_fieldValues, a_out, a_frameValue, a_frameList, a_frameNext, a_frameBody, a_valueText)) (h0 : ¬ a_cellName (s * 96 + p) = a_cellName (s * 96 + q) → post (-5) (f_openMarkLength, f_closeMarkLength, nI (L + 1), f_compileFrom, f_compileTo, f_valueCount, f_outCap, f_outCount, f_frameCount, f_valueTextLength, f_renderAt, f_renderTo, f_returnAt, f_finished, f_overflowed, a_text, a_cellKind, a_cellName, a_tagEnd, a_sectionEnd, a_textLength, a_slotStatus, a_slotError, a_openMark, a_closeMark, a_openTags, a_valueKind, a_amount, a_parts, a_fieldValues, a_out, a_frameValue, a_frameList, a_frameNext, a_frameBody, a_valueText)) : wpX_nestTag post (f_openMarkLength, f_closeMarkLength, nI (L + 1), f_compileFrom, f_compileTo, f_valueCount, f_outCap, f_outCount, f_frameCount, f_valueTextLength, f_renderAt, f_renderTo, f_returnAt, f_finished, f_overflowed, a_text, a_cellKind, a_cellName, a_tagEnd, a_sectionEnd, a_textLength, a_slotStatus, a_slotError, a_openMark, a_closeMark, a_openTags, a_valueKind, a_amount, a_parts, a_fieldValues, a_out, a_frameValue, a_frameList, a_frameNext, a_frameBody, a_valueText) (nI s) (nI (s * 96 + q)) := by
  unfold wpX_nestTag
  refine ⟨vp_in_nI (by omega) (by omega), nm_r (e' := nI 8) (by rw [nI_clamp (by omega)]; exact hK) (br_f (by decide) (br_f (by decide) (br_t rfl ?_)))⟩
  unfold wpX_closeSection
  have c1 : (nI (s * 96 + p)).toNatClampNeg = s * 96 + p := nI_clamp (by omega)
  have c2 : (nI (s * 96 + q)).toNatClampNeg = s * 96 + q := nI_clamp (by omega)
  refine br_f (nI_ne0 (by omega) (by omega)) ⟨by rw [nI_pred]; exact vp_in_nI (by omega) (by omega), nm_r (e' := nI (s * 96 + p)) (by rw [nI_pred, nI_clamp (by omega)]; exact hO) ⟨vp_in_nI (by omega) (by omega), vp_in_nI (by omega) (by omega), ?_⟩⟩
  by_cases z : a_cellName (s * 96 + p) = a_cellName (s * 96 + q)
  · refine br_t (by rw [c1, c2]; exact z) ⟨vp_in_nI (by omega) (by omega), vp_in_nI (by omega) (by omega), nm_r (e' := upd a_sectionEnd (s * 96 + p) (nI (s * 96 + e))) (by rw [c1, c2, hE]) (nm_r (nI_pred _) (h1 z))⟩
  · exact br_f (by rw [c1, c2]; exact z) (h0 z)
theorem xn_oth {post : Int32 → SX → Prop} {k : Nat} (hs : s < 4) (hq : q < 96) (hK : a_cellKind (s * 96 + q) = nI k) (hk9 : k ≤ 9) (h6 : k ≠ 6) (h7 : k ≠ 7) (h8 : k ≠ 8) (h1 : (k = 9 → s = 0) → post 0 (f_openMarkLength, f_closeMarkLength, f_openCount, f_compileFrom, f_compileTo, f_valueCount, f_outCap, f_outCount, f_frameCount, f_valueTextLength, f_renderAt, f_renderTo, f_returnAt, f_finished, f_overflowed, a_text, a_cellKind, a_cellName, a_tagEnd, a_sectionEnd, a_textLength, a_slotStatus, a_slotError, a_openMark, a_closeMark, a_openTags, a_valueKind, a_amount, a_parts, a_fieldValues, a_out, a_frameValue, a_frameList, a_frameNext, a_frameBody, a_valueText)) (h0 : k = 9 → s ≠ 0 → post (-6) (f_openMarkLength, f_closeMarkLength, f_openCount, f_compileFrom, f_compileTo, f_valueCount, f_outCap, f_outCount, f_frameCount, f_valueTextLength, f_renderAt, f_renderTo, f_returnAt, f_finished, f_overflowed, a_text, a_cellKind, a_cellName, a_tagEnd, a_sectionEnd, a_textLength, a_slotStatus, a_slotError, a_openMark, a_closeMark, a_openTags, a_valueKind, a_amount, a_parts, a_fieldValues, a_out, a_frameValue, a_frameList, a_frameNext, a_frameBody, a_valueText)) : wpX_nestTag post (f_openMarkLength, f_closeMarkLength, f_openCount, f_compileFrom, f_compileTo, f_valueCount, f_outCap, f_outCount, f_frameCount, f_valueTextLength, f_renderAt, f_renderTo, f_returnAt, f_finished, f_overflowed, a_text, a_cellKind, a_cellName, a_tagEnd, a_sectionEnd, a_textLength, a_slotStatus, a_slotError, a_openMark, a_closeMark, a_openTags, a_valueKind, a_amount, a_parts, a_fieldValues, a_out, a_frameValue, a_frameList, a_frameNext, a_frameBody, a_valueText) (nI s) (nI (s * 96 + q)) := by
  unfold wpX_nestTag
  have m : ∀ w, w ≤ 9 → k ≠ w → ¬ nI k = nI w := fun w w1 w2 x => w2 (la_im x (by omega) (by omega))
  refine ⟨vp_in_nI (by omega) (by omega), nm_r (e' := nI k) (by rw [nI_clamp (by omega)]; exact hK) (br_f (m 6 (by omega) h6) (br_f (m 7 (by omega) h7) (br_f (m 8 (by omega) h8) (pk_eq k 9 (fun z => pk_eq s 0 (fun y => h1 (fun _ => y)) (fun y => h0 z y)) (fun z => h1 (fun y => absurd y z))))))⟩
end NEST
end LLXT
end
section
section LLYC
theorem la_33 {x : Int32} : x < 33 ↔ x ≤ 32 := by
  rw [Int32.lt_iff_toInt_lt, Int32.le_iff_toInt_le, show (33 : Int32).toInt = 33 from by decide, show (32 : Int32).toInt = 32 from by decide]
  omega
theorem dd_sep {T : Nat → Int32} {a b : Nat} (hd : ll_dok T a b) : T (ll_de T a b) = 32 ∧ ll_de T a b < ll_db T a b := by
  obtain ⟨h1, h2, h3, h4, h5⟩ := hd
  have hb := ll_d_b (T := T) (a := a) (b := b) h1
  have e0 : ll_db T a b = ll_sp T (ll_dh T a b - ll_de T a b) (ll_de T a b) := rfl
  obtain ⟨d, hdd⟩ : ∃ d, ll_dh T a b - ll_de T a b = d + 1 := ⟨ll_dh T a b - ll_de T a b - 1, by omega⟩
  rw [hdd, ll_sp_u] at e0
  by_cases z : T (ll_de T a b) = 32
  · rw [if_pos z] at e0
    have := ll_sp_b (T := T) d (ll_de T a b + 1)
    exact ⟨z, by omega⟩
  · rw [if_neg z] at e0
    have ng : ¬ ll_gd (T (ll_de T a b)) := ll_sm_n (ll_dh T a b - ll_da T a b) (ll_da T a b) (by
      have : ll_sm T (ll_dh T a b - ll_da T a b) (ll_da T a b) = ll_de T a b := rfl
      omega)
    have g : ll_gd (T (ll_db T a b)) := ll_sm_a (ll_dh T a b - ll_db T a b) (ll_db T a b) (ll_db T a b) (Nat.le_refl _) (by omega)
    rw [e0] at g
    exact absurd g ng
section YY
variable {g_ol g_cl g_newOl g_newCl g_tagName g_parseErr g_openCount g_nVals g_outLen g_outCap g_fn g_cn : Int32} {b_text b_len b_stat b_errPos b_removed b_tType b_tA b_tB b_tName b_tMatch b_tCount b_oc b_cc b_newO b_newC b_openName b_openTok b_vKind b_vNum b_vCnt b_vStr b_vItem b_vKey b_vVal b_out b_fv b_cKind b_cSlot b_cTok b_cVal b_cIdx b_dig : Nat → Int32}
section TXT
variable {s n : Nat} {T : Nat → Int32}
theorem yd_A {post : Int32 → SY → Prop} {D H e : Nat} (hs : s < 4) (hT : ∀ i, i < 96 → b_text (s * 96 + i) = T i) (hR : ∀ i, i < 96 → T i ≤ 126) (hH : H ≤ 96) (he : e ≤ H) (hg : ∀ j, D ≤ j → j < e → ll_gd (T j)) (h3 : e ≤ D + 3) (hx : e = H ∨ T e = 32) (hc : wY_setDelim_188 post (nI (s * 96)) (nI H) (nI e) (nI (e - D)) g_ol g_cl g_newOl g_newCl g_tagName g_parseErr g_openCount g_nVals g_outLen g_outCap g_fn g_cn b_text b_len b_stat b_errPos b_removed b_tType b_tA b_tB b_tName b_tMatch b_tCount b_oc b_cc (cy_f b_newO (fun j => T (D + j)) (e - D)) b_newC b_openName b_openTok b_vKind b_vNum b_vCnt b_vStr b_vItem b_vKey b_vVal b_out b_fv b_cKind b_cSlot b_cTok b_cVal b_cIdx b_dig) : ∀ d la, D + la + d = e → wY_setDelim_112 post (nI (s * 96)) (nI H) g_ol g_cl g_newOl g_newCl g_tagName g_parseErr g_openCount g_nVals g_outLen g_outCap g_fn g_cn (d + 1) (nI (D + la)) (nI la) b_text b_len b_stat b_errPos b_removed b_tType b_tA b_tB b_tName b_tMatch b_tCount b_oc b_cc (cy_f b_newO (fun j => T (D + j)) la) b_newC b_openName b_openTok b_vKind b_vNum b_vCnt b_vStr b_vItem b_vKey b_vVal b_out b_fv b_cKind b_cSlot b_cTok b_cVal b_cIdx b_dig := by
  intro d
  induction d with
  | zero =>
    intro la hl
    have e1 : la = e - D := by omega
    have e2 : D + la = e := by omega
    rw [e2, e1]
    by_cases z : e = H
    · exact br_t (nI_le (by omega) (by omega)) hc
    · rcases hx with x | x
      · exact absurd x z
      · refine br_f (nI_ge (by omega) (by omega)) ⟨by rw [nI_add]; exact vp_in_nI (by omega) (by omega), nm_r (e' := T e) (by rw [nI_add, nI_clamp (by omega)]; exact hT e (by omega)) (br_t x hc)⟩
  | succ d ih =>
    intro la hl
    obtain ⟨g1, g2⟩ := hg (D + la) (by omega) (by omega)
    refine br_f (nI_ge (by omega) (by omega)) ⟨by rw [nI_add]; exact vp_in_nI (by omega) (by omega), nm_r (e' := T (D + la)) (by rw [nI_add, nI_clamp (by omega)]; exact hT _ (by omega)) (br_f (fun y => absurd (y ▸ g1) (by decide)) (br_f (fun y => absurd g1 (Int32.not_lt.mpr (la_33.mp y))) (br_f (Int32.not_lt.mpr (hR _ (by omega))) (br_f g2 (br_t (nI_lt (b := 3) (by omega) (by decide)) ⟨vp_in_nI (by omega) (by omega), nm_r (by rw [nI_clamp (by omega)]; exact cy_s (g := fun j => T (D + j))) (nm_r (nI_1 _) (nm_r (nI_1 _) (ih (la + 1) (by omega))))⟩)))))⟩
theorem yd_AF {D H e : Nat} (hs : s < 4) (hT : ∀ i, i < 96 → b_text (s * 96 + i) = T i) (hR : ∀ i, i < 96 → T i ≤ 126) (hH : H ≤ 96) (he : e ≤ H) (hg : ∀ j, D ≤ j → j < e → ll_gd (T j)) (hb : e < H → ¬ ll_gd (T e)) (hx : D + 3 < e ∨ (e < H ∧ T e ≠ 32)) : ∀ d la, D + la + d = e → la ≤ 3 → ∃ o' : Nat → Int32, ∀ post : Int32 → SY → Prop, post (-1) (g_ol, g_cl, g_newOl, g_newCl, g_tagName, g_parseErr, g_openCount, g_nVals, g_outLen, g_outCap, g_fn, g_cn, b_text, b_len, b_stat, b_errPos, b_removed, b_tType, b_tA, b_tB, b_tName, b_tMatch, b_tCount, b_oc, b_cc, o', b_newC, b_openName, b_openTok, b_vKind, b_vNum, b_vCnt, b_vStr, b_vItem, b_vKey, b_vVal, b_out, b_fv, b_cKind, b_cSlot, b_cTok, b_cVal, b_cIdx, b_dig) → wY_setDelim_112 post (nI (s * 96)) (nI H) g_ol g_cl g_newOl g_newCl g_tagName g_parseErr g_openCount g_nVals g_outLen g_outCap g_fn g_cn (d + 1) (nI (D + la)) (nI la) b_text b_len b_stat b_errPos b_removed b_tType b_tA b_tB b_tName b_tMatch b_tCount b_oc b_cc (cy_f b_newO (fun j => T (D + j)) la) b_newC b_openName b_openTok b_vKind b_vNum b_vCnt b_vStr b_vItem b_vKey b_vVal b_out b_fv b_cKind b_cSlot b_cTok b_cVal b_cIdx b_dig := by
  intro d
  induction d with
  | zero =>
    intro la hl h3
    have e2 : D + la = e := by omega
    have hlt : e < H := by omega
    have hne : T e ≠ 32 := by
      rcases hx with x | x
      · omega
      · exact x.2
    refine ⟨cy_f b_newO (fun j => T (D + j)) la, fun post h => ?_⟩
    rw [e2]
    refine br_f (nI_ge (by omega) (by omega)) ⟨by rw [nI_add]; exact vp_in_nI (by omega) (by omega), nm_r (e' := T e) (by rw [nI_add, nI_clamp (by omega)]; exact hT _ (by omega)) (br_f hne (br_c (fun _ => h) (fun y => br_f (Int32.not_lt.mpr (hR _ (by omega))) (br_t ?_ h))))⟩
    apply Classical.byContradiction
    intro q
    exact hb hlt ⟨Int32.not_le.mp (fun w => y (la_33.mpr w)), q⟩
  | succ d ih =>
    intro la hl h3
    obtain ⟨g1, g2⟩ := hg (D + la) (by omega) (by omega)
    by_cases z : la < 3
    · obtain ⟨o', ho⟩ := ih (la + 1) (by omega) (by omega)
      refine ⟨o', fun post h => ?_⟩
      refine br_f (nI_ge (by omega) (by omega)) ⟨by rw [nI_add]; exact vp_in_nI (by omega) (by omega), nm_r (e' := T (D + la)) (by rw [nI_add, nI_clamp (by omega)]; exact hT _ (by omega)) (br_f (fun y => absurd (y ▸ g1) (by decide)) (br_f (fun y => absurd g1 (Int32.not_lt.mpr (la_33.mp y))) (br_f (Int32.not_lt.mpr (hR _ (by omega))) (br_f g2 (br_t (nI_lt (b := 3) (by omega) (by decide)) ⟨vp_in_nI (by omega) (by omega), nm_r (by rw [nI_clamp (by omega)]; exact cy_s (g := fun j => T (D + j))) (nm_r (nI_1 _) (nm_r (nI_1 _) (ho post h)))⟩)))))⟩
    · refine ⟨cy_f b_newO (fun j => T (D + j)) la, fun post h => ?_⟩
      refine br_f (nI_ge (by omega) (by omega)) ⟨by rw [nI_add]; exact vp_in_nI (by omega) (by omega), nm_r (e' := T (D + la)) (by rw [nI_add, nI_clamp (by omega)]; exact hT _ (by omega)) (br_f (fun y => absurd (y ▸ g1) (by decide)) (br_f (fun y => absurd g1 (Int32.not_lt.mpr (la_33.mp y))) (br_f (Int32.not_lt.mpr (hR _ (by omega))) (br_f g2 (br_f (nI_nlt (b := 3) (by omega) (by omega)) h)))))⟩
theorem yd_B {post : Int32 → SY → Prop} {D H : Nat} {w : Int32} (hs : s < 4) (hT : ∀ i, i < 96 → b_text (s * 96 + i) = T i) (hR : ∀ i, i < 96 → T i ≤ 126) (hH : H ≤ 96) (hg : ∀ j, D ≤ j → j < H → ll_gd (T j)) (h1 : D + 1 ≤ H) (h3 : H ≤ D + 3) (hc : post 3 (g_ol, g_cl, w, nI (H - D), g_tagName, g_parseErr, g_openCount, g_nVals, g_outLen, g_outCap, g_fn, g_cn, b_text, b_len, b_stat, b_errPos, b_removed, b_tType, b_tA, b_tB, b_tName, b_tMatch, b_tCount, b_oc, b_cc, b_newO, cy_f b_newC (fun j => T (D + j)) (H - D), b_openName, b_openTok, b_vKind, b_vNum, b_vCnt, b_vStr, b_vItem, b_vKey, b_vVal, b_out, b_fv, b_cKind, b_cSlot, b_cTok, b_cVal, b_cIdx, b_dig)) : ∀ d la, D + la + d = H → wY_setDelim_247 post (nI (s * 96)) (nI H) w g_ol g_cl g_newOl g_newCl g_tagName g_parseErr g_openCount g_nVals g_outLen g_outCap g_fn g_cn (d + 1) (nI la) (nI (D + la)) b_text b_len b_stat b_errPos b_removed b_tType b_tA b_tB b_tName b_tMatch b_tCount b_oc b_cc b_newO (cy_f b_newC (fun j => T (D + j)) la) b_openName b_openTok b_vKind b_vNum b_vCnt b_vStr b_vItem b_vKey b_vVal b_out b_fv b_cKind b_cSlot b_cTok b_cVal b_cIdx b_dig := by
  intro d
  induction d with
  | zero =>
    intro la hl
    have e1 : la = H - D := by omega
    have e2 : D + la = H := by omega
    rw [e2, e1]
    exact br_t (nI_le (by omega) (by omega)) (br_t (nI_le (a := 1) (by omega) (by omega)) hc)
  | succ d ih =>
    intro la hl
    obtain ⟨g1, g2⟩ := hg (D + la) (by omega) (by omega)
    refine br_f (nI_ge (by omega) (by omega)) ⟨by rw [nI_add]; exact vp_in_nI (by omega) (by omega), nm_r (e' := T (D + la)) (by rw [nI_add, nI_clamp (by omega)]; exact hT _ (by omega)) (br_f (fun y => absurd g1 (Int32.not_lt.mpr (la_33.mp y))) (br_f (Int32.not_lt.mpr (hR _ (by omega))) (br_f g2 (br_t (nI_lt (b := 3) (by omega) (by decide)) ⟨vp_in_nI (by omega) (by omega), nm_r (by rw [nI_clamp (by omega)]; exact cy_s (g := fun j => T (D + j))) (nm_r (nI_1 _) (nm_r (nI_1 _) (ih (la + 1) (by omega))))⟩))))⟩
theorem yd_BF {D H e : Nat} {w : Int32} (hs : s < 4) (hT : ∀ i, i < 96 → b_text (s * 96 + i) = T i) (hR : ∀ i, i < 96 → T i ≤ 126) (hH : H ≤ 96) (he : e ≤ H) (hg : ∀ j, D ≤ j → j < e → ll_gd (T j)) (hb : e < H → ¬ ll_gd (T e)) (hx : ¬ (e = H ∧ D + 1 ≤ H ∧ H ≤ D + 3)) : ∀ d la, D + la + d = H → la ≤ 3 → D + la ≤ e → ∃ o' : Nat → Int32, ∀ post : Int32 → SY → Prop, post (-1) (g_ol, g_cl, g_newOl, g_newCl, g_tagName, g_parseErr, g_openCount, g_nVals, g_outLen, g_outCap, g_fn, g_cn, b_text, b_len, b_stat, b_errPos, b_removed, b_tType, b_tA, b_tB, b_tName, b_tMatch, b_tCount, b_oc, b_cc, b_newO, o', b_openName, b_openTok, b_vKind, b_vNum, b_vCnt, b_vStr, b_vItem, b_vKey, b_vVal, b_out, b_fv, b_cKind, b_cSlot, b_cTok, b_cVal, b_cIdx, b_dig) → wY_setDelim_247 post (nI (s * 96)) (nI H) w g_ol g_cl g_newOl g_newCl g_tagName g_parseErr g_openCount g_nVals g_outLen g_outCap g_fn g_cn (d + 1) (nI la) (nI (D + la)) b_text b_len b_stat b_errPos b_removed b_tType b_tA b_tB b_tName b_tMatch b_tCount b_oc b_cc b_newO (cy_f b_newC (fun j => T (D + j)) la) b_openName b_openTok b_vKind b_vNum b_vCnt b_vStr b_vItem b_vKey b_vVal b_out b_fv b_cKind b_cSlot b_cTok b_cVal b_cIdx b_dig := by
  intro d
  induction d with
  | zero =>
    intro la hl h3 hle
    have e0 : la = 0 := by omega
    refine ⟨cy_f b_newC (fun j => T (D + j)) la, fun post h => ?_⟩
    exact br_t (nI_le (by omega) (by omega)) (br_f (by rw [e0]; decide) h)
  | succ d ih =>
    intro la hl h3 hle
    by_cases z0 : D + la < e
    · obtain ⟨g1, g2⟩ := hg (D + la) (by omega) (by omega)
      by_cases z : la < 3
      · obtain ⟨o', ho⟩ := ih (la + 1) (by omega) (by omega) (by omega)
        refine ⟨o', fun post h => ?_⟩
        refine br_f (nI_ge (by omega) (by omega)) ⟨by rw [nI_add]; exact vp_in_nI (by omega) (by omega), nm_r (e' := T (D + la)) (by rw [nI_add, nI_clamp (by omega)]; exact hT _ (by omega)) (br_f (fun y => absurd g1 (Int32.not_lt.mpr (la_33.mp y))) (br_f (Int32.not_lt.mpr (hR _ (by omega))) (br_f g2 (br_t (nI_lt (b := 3) (by omega) (by decide)) ⟨vp_in_nI (by omega) (by omega), nm_r (by rw [nI_clamp (by omega)]; exact cy_s (g := fun j => T (D + j))) (nm_r (nI_1 _) (nm_r (nI_1 _) (ho post h)))⟩))))⟩
      · refine ⟨cy_f b_newC (fun j => T (D + j)) la, fun post h => ?_⟩
        refine br_f (nI_ge (by omega) (by omega)) ⟨by rw [nI_add]; exact vp_in_nI (by omega) (by omega), nm_r (e' := T (D + la)) (by rw [nI_add, nI_clamp (by omega)]; exact hT _ (by omega)) (br_f (fun y => absurd g1 (Int32.not_lt.mpr (la_33.mp y))) (br_f (Int32.not_lt.mpr (hR _ (by omega))) (br_f g2 (br_f (nI_nlt (b := 3) (by omega) (by omega)) h))))⟩
    · have e2 : D + la = e := by omega
      refine ⟨cy_f b_newC (fun j => T (D + j)) la, fun post h => ?_⟩
      refine br_f (nI_ge (by omega) (by omega)) ⟨by rw [nI_add]; exact vp_in_nI (by omega) (by omega), nm_r (e' := T (D + la)) (by rw [nI_add, nI_clamp (by omega)]; exact hT _ (by omega)) (br_c (fun _ => h) (fun y => br_f (Int32.not_lt.mpr (hR _ (by omega))) (br_t ?_ h)))⟩
      apply Classical.byContradiction
      intro q
      exact hb (by omega) (e2 ▸ ⟨Int32.not_le.mp (fun w => y (la_33.mpr w)), q⟩)
theorem yd_200 {post : Int32 → SY → Prop} {H : Nat} {x7 x8 : Int32} (hs : s < 4) (hT : ∀ i, i < 96 → b_text (s * 96 + i) = T i) (hH : H ≤ 96) : ∀ d i, i + d = H → wY_setDelim_231 post (nI (s * 96)) (nI H) x7 x8 (nI (ll_sp T d i)) g_ol g_cl g_newOl g_newCl g_tagName g_parseErr g_openCount g_nVals g_outLen g_outCap g_fn g_cn b_text b_len b_stat b_errPos b_removed b_tType b_tA b_tB b_tName b_tMatch b_tCount b_oc b_cc b_newO b_newC b_openName b_openTok b_vKind b_vNum b_vCnt b_vStr b_vItem b_vKey b_vVal b_out b_fv b_cKind b_cSlot b_cTok b_cVal b_cIdx b_dig → wY_setDelim_200 post (nI (s * 96)) (nI H) x7 x8 g_ol g_cl g_newOl g_newCl g_tagName g_parseErr g_openCount g_nVals g_outLen g_outCap g_fn g_cn b_text b_len b_stat b_errPos b_removed b_tType b_tA b_tB b_tName b_tMatch b_tCount b_oc b_cc b_newO b_newC b_openName b_openTok b_vKind b_vNum b_vCnt b_vStr b_vItem b_vKey b_vVal b_out b_fv b_cKind b_cSlot b_cTok b_cVal b_cIdx b_dig (d + 1) (nI i) := by
  intro d
  induction d with
  | zero => intro i hi h; exact br_t (nI_le (by omega) (by omega)) h
  | succ d ih =>
    intro i hi h
    rw [ll_sp_u] at h
    have e2 : b_text (nI (s * 96) + nI i).toNatClampNeg = T i := by rw [nI_add, nI_clamp (by omega), hT _ (by omega)]
    refine br_f (nI_ge (by omega) (by omega)) ⟨by rw [nI_add]; exact vp_in_nI (by omega) (by omega), ?_⟩
    by_cases z : T i = 32
    · rw [if_pos z] at h
      exact br_t (e2.trans z) (nm_r (nI_1 _) (ih (i + 1) (by omega) h))
    · rw [if_neg z] at h
      exact br_f (fun y => z (e2.symm.trans y)) h
theorem yd_72 {post : Int32 → SY → Prop} {lo : Nat} (hs : s < 4) (hT : ∀ i, i < 96 → b_text (s * 96 + i) = T i) : ∀ d j, lo + d = j → j ≤ 96 → (∃ n112, wY_setDelim_112 post (nI (s * 96)) (nI (ll_sb T d j)) g_ol g_cl g_newOl g_newCl g_tagName g_parseErr g_openCount g_nVals g_outLen g_outCap g_fn g_cn n112 (nI lo) 0 b_text b_len b_stat b_errPos b_removed b_tType b_tA b_tB b_tName b_tMatch b_tCount b_oc b_cc b_newO b_newC b_openName b_openTok b_vKind b_vNum b_vCnt b_vStr b_vItem b_vKey b_vVal b_out b_fv b_cKind b_cSlot b_cTok b_cVal b_cIdx b_dig) → wY_setDelim_72 post (nI (s * 96)) (nI lo) g_ol g_cl g_newOl g_newCl g_tagName g_parseErr g_openCount g_nVals g_outLen g_outCap g_fn g_cn b_text b_len b_stat b_errPos b_removed b_tType b_tA b_tB b_tName b_tMatch b_tCount b_oc b_cc b_newO b_newC b_openName b_openTok b_vKind b_vNum b_vCnt b_vStr b_vItem b_vKey b_vVal b_out b_fv b_cKind b_cSlot b_cTok b_cVal b_cIdx b_dig (d + 1) (nI j) := by
  intro d
  induction d with
  | zero => intro j hi hj h; exact br_t (nI_le (by omega) (by omega)) h
  | succ d ih =>
    intro j hi hj h
    rw [ll_sb_u] at h
    have e1 : nI (s * 96) + nI j - 1 = nI (s * 96 + (j - 1)) := by rw [nI_add, la_s (by omega)]; exact congrArg nI (by omega)
    have e2 : b_text (nI (s * 96) + nI j - 1).toNatClampNeg = T (j - 1) := by rw [e1, nI_clamp (by omega), hT _ (by omega)]
    refine br_f (nI_ge (by omega) (by omega)) ⟨by rw [e1]; exact vp_in_nI (by omega) (by omega), ?_⟩
    by_cases z : T (j - 1) = 32
    · rw [if_pos z] at h
      exact br_t (e2.trans z) (nm_r (la_m (by omega)) (ih (j - 1) (by omega) (by omega) h))
    · rw [if_neg z] at h
      exact br_f (fun y => z (e2.symm.trans y)) h
theorem yd_41 {post : Int32 → SY → Prop} {H : Nat} (hs : s < 4) (hT : ∀ i, i < 96 → b_text (s * 96 + i) = T i) (hH : H ≤ 96) : ∀ d i, i + d = H → (∃ n72, wY_setDelim_72 post (nI (s * 96)) (nI (ll_sp T d i)) g_ol g_cl g_newOl g_newCl g_tagName g_parseErr g_openCount g_nVals g_outLen g_outCap g_fn g_cn b_text b_len b_stat b_errPos b_removed b_tType b_tA b_tB b_tName b_tMatch b_tCount b_oc b_cc b_newO b_newC b_openName b_openTok b_vKind b_vNum b_vCnt b_vStr b_vItem b_vKey b_vVal b_out b_fv b_cKind b_cSlot b_cTok b_cVal b_cIdx b_dig n72 (nI H)) → wY_setDelim_41 post (nI (s * 96)) (nI H) g_ol g_cl g_newOl g_newCl g_tagName g_parseErr g_openCount g_nVals g_outLen g_outCap g_fn g_cn b_text b_len b_stat b_errPos b_removed b_tType b_tA b_tB b_tName b_tMatch b_tCount b_oc b_cc b_newO b_newC b_openName b_openTok b_vKind b_vNum b_vCnt b_vStr b_vItem b_vKey b_vVal b_out b_fv b_cKind b_cSlot b_cTok b_cVal b_cIdx b_dig (d + 1) (nI i) := by
  intro d
  induction d with
  | zero => intro i hi h; exact br_t (nI_le (by omega) (by omega)) h
  | succ d ih =>
    intro i hi h
    rw [ll_sp_u] at h
    have e2 : b_text (nI (s * 96) + nI i).toNatClampNeg = T i := by rw [nI_add, nI_clamp (by omega), hT _ (by omega)]
    refine br_f (nI_ge (by omega) (by omega)) ⟨by rw [nI_add]; exact vp_in_nI (by omega) (by omega), ?_⟩
    by_cases z : T i = 32
    · rw [if_pos z] at h
      exact br_t (e2.trans z) (nm_r (nI_1 _) (ih (i + 1) (by omega) h))
    · rw [if_neg z] at h
      exact br_f (fun y => z (e2.symm.trans y)) h
/-- up to the loop over A -/
theorem yd_0 {post : Int32 → SY → Prop} {a b : Nat} (hs : s < 4) (hT : ∀ i, i < 96 → b_text (s * 96 + i) = T i) (hb : b ≤ 96) (hab : a + 3 ≤ b) (h61 : T (b - 1) = 61) (h : ∃ n112, wY_setDelim_112 post (nI (s * 96)) (nI (ll_dh T a b)) g_ol g_cl g_newOl g_newCl g_tagName g_parseErr g_openCount g_nVals g_outLen g_outCap g_fn g_cn n112 (nI (ll_da T a b)) 0 b_text b_len b_stat b_errPos b_removed b_tType b_tA b_tB b_tName b_tMatch b_tCount b_oc b_cc b_newO b_newC b_openName b_openTok b_vKind b_vNum b_vCnt b_vStr b_vItem b_vKey b_vVal b_out b_fv b_cKind b_cSlot b_cTok b_cVal b_cIdx b_dig) : wpY_setDelim post (g_ol, g_cl, g_newOl, g_newCl, g_tagName, g_parseErr, g_openCount, g_nVals, g_outLen, g_outCap, g_fn, g_cn, b_text, b_len, b_stat, b_errPos, b_removed, b_tType, b_tA, b_tB, b_tName, b_tMatch, b_tCount, b_oc, b_cc, b_newO, b_newC, b_openName, b_openTok, b_vKind, b_vNum, b_vCnt, b_vStr, b_vItem, b_vKey, b_vVal, b_out, b_fv, b_cKind, b_cSlot, b_cTok, b_cVal, b_cIdx, b_dig) (nI s) (nI a) (nI b) := by
  have hd := ll_d_b (T := T) (a := a) (b := b) hab
  unfold wpY_setDelim
  have e1 : nI (s * 96) + nI b - 1 = nI (s * 96 + (b - 1)) := by rw [nI_add, la_s (by omega)]; exact congrArg nI (by omega)
  have e2 : b_text (nI (s * 96) + nI b - 1).toNatClampNeg = T (b - 1) := by rw [e1, nI_clamp (by omega), hT _ (by omega)]
  refine nm_r (la_m96 s) (pk_lt (b - a) 3 (fun z => by omega) (fun z => ⟨by rw [e1]; exact vp_in_nI (by omega) (by omega), br_t (e2.trans h61) (nm_r (nI_1 _) (nm_r (la_s (by omega)) ⟨_, yd_41 hs hT (by omega) (b - 1 - (a + 1)) (a + 1) (by omega) ⟨_, yd_72 (lo := ll_da T a b) hs hT (b - 1 - ll_da T a b) (b - 1) (by omega) (by omega) h⟩⟩))⟩) (pk_sub (by omega)))
theorem yd_T {a b : Nat} (hs : s < 4) (hT : ∀ i, i < 96 → b_text (s * 96 + i) = T i) (hR : ∀ i, i < 96 → T i ≤ 126) (hb : b ≤ 96) (hd : ll_dok T a b) {post : Int32 → SY → Prop} (h : post 3 (g_ol, g_cl, nI (ll_de T a b - ll_da T a b), nI (ll_dh T a b - ll_db T a b), g_tagName, g_parseErr, g_openCount, g_nVals, g_outLen, g_outCap, g_fn, g_cn, b_text, b_len, b_stat, b_errPos, b_removed, b_tType, b_tA, b_tB, b_tName, b_tMatch, b_tCount, b_oc, b_cc, cy_f b_newO (fun j => T (ll_da T a b + j)) (ll_de T a b - ll_da T a b), cy_f b_newC (fun j => T (ll_db T a b + j)) (ll_dh T a b - ll_db T a b), b_openName, b_openTok, b_vKind, b_vNum, b_vCnt, b_vStr, b_vItem, b_vKey, b_vVal, b_out, b_fv, b_cKind, b_cSlot, b_cTok, b_cVal, b_cIdx, b_dig)) : wpY_setDelim post (g_ol, g_cl, g_newOl, g_newCl, g_tagName, g_parseErr, g_openCount, g_nVals, g_outLen, g_outCap, g_fn, g_cn, b_text, b_len, b_stat, b_errPos, b_removed, b_tType, b_tA, b_tB, b_tName, b_tMatch, b_tCount, b_oc, b_cc, b_newO, b_newC, b_openName, b_openTok, b_vKind, b_vNum, b_vCnt, b_vStr, b_vItem, b_vKey, b_vVal, b_out, b_fv, b_cKind, b_cSlot, b_cTok, b_cVal, b_cIdx, b_dig) (nI s) (nI a) (nI b) := by
  have sep := dd_sep hd
  have hB := ll_d_b (T := T) (a := a) (b := b) hd.1
  obtain ⟨d1, d2, d3, d4, d5⟩ := hd
  refine yd_0 hs hT hb d1 d2 ?_
  have gA : ∀ j, ll_da T a b ≤ j → j < ll_de T a b → ll_gd (T j) := fun j j1 j2 => ll_sm_a _ _ j j1 j2
  have gB : ∀ j, ll_db T a b ≤ j → j < ll_dh T a b → ll_gd (T j) := fun j j1 j2 => ll_sm_a (ll_dh T a b - ll_db T a b) (ll_db T a b) j j1 (by omega)
  have rB := yd_B (g_ol := g_ol) (g_cl := g_cl) (g_newOl := g_newOl) (g_newCl := g_newCl) (g_tagName := g_tagName) (g_parseErr := g_parseErr) (g_openCount := g_openCount) (g_nVals := g_nVals) (g_outLen := g_outLen) (g_outCap := g_outCap) (g_fn := g_fn) (g_cn := g_cn) (b_text := b_text) (b_len := b_len) (b_stat := b_stat) (b_errPos := b_errPos) (b_removed := b_removed) (b_tType := b_tType) (b_tA := b_tA) (b_tB := b_tB) (b_tName := b_tName) (b_tMatch := b_tMatch) (b_tCount := b_tCount) (b_oc := b_oc) (b_cc := b_cc) (b_newO := cy_f b_newO (fun j => T (ll_da T a b + j)) (ll_de T a b - ll_da T a b)) (b_newC := b_newC) (b_openName := b_openName) (b_openTok := b_openTok) (b_vKind := b_vKind) (b_vNum := b_vNum) (b_vCnt := b_vCnt) (b_vStr := b_vStr) (b_vItem := b_vItem) (b_vKey := b_vKey) (b_vVal := b_vVal) (b_out := b_out) (b_fv := b_fv) (b_cKind := b_cKind) (b_cSlot := b_cSlot) (b_cTok := b_cTok) (b_cVal := b_cVal) (b_cIdx := b_cIdx) (b_dig := b_dig) (post := post) (D := ll_db T a b) (H := ll_dh T a b) (w := nI (ll_de T a b - ll_da T a b)) hs hT hR (by omega) gB d5.1 d5.2 h (ll_dh T a b - ll_db T a b) 0 (by omega)
  rw [cy_0] at rB
  have rA := yd_A (g_ol := g_ol) (g_cl := g_cl) (g_newOl := g_newOl) (g_newCl := g_newCl) (g_tagName := g_tagName) (g_parseErr := g_parseErr) (g_openCount := g_openCount) (g_nVals := g_nVals) (g_outLen := g_outLen) (g_outCap := g_outCap) (g_fn := g_fn) (g_cn := g_cn) (b_text := b_text) (b_len := b_len) (b_stat := b_stat) (b_errPos := b_errPos) (b_removed := b_removed) (b_tType := b_tType) (b_tA := b_tA) (b_tB := b_tB) (b_tName := b_tName) (b_tMatch := b_tMatch) (b_tCount := b_tCount) (b_oc := b_oc) (b_cc := b_cc) (b_newO := b_newO) (b_newC := b_newC) (b_openName := b_openName) (b_openTok := b_openTok) (b_vKind := b_vKind) (b_vNum := b_vNum) (b_vCnt := b_vCnt) (b_vStr := b_vStr) (b_vItem := b_vItem) (b_vKey := b_vKey) (b_vVal := b_vVal) (b_out := b_out) (b_fv := b_fv) (b_cKind := b_cKind) (b_cSlot := b_cSlot) (b_cTok := b_cTok) (b_cVal := b_cVal) (b_cIdx := b_cIdx) (b_dig := b_dig) (post := post) (D := ll_da T a b) (H := ll_dh T a b) (e := ll_de T a b) hs hT hR (by omega) (by omega) gA d4.2 (Or.inr sep.1) (br_t (nI_le (a := 1) (by omega) (by omega)) ⟨_, yd_200 hs hT (by omega) (ll_dh T a b - ll_de T a b) (ll_de T a b) (by omega) (br_f (fun y => ?_) ⟨_, rB⟩)⟩) (ll_de T a b - ll_da T a b) 0 (by omega)
  · rw [cy_0] at rA
    exact ⟨_, rA⟩
  · have := la_im (a := ll_db T a b) (b := ll_de T a b) y (by omega) (by omega)
    omega
end TXT
end YY
end LLYC
end
section
section LLYD
variable {g_ol g_cl g_newOl g_newCl g_tagName g_parseErr g_openCount g_nVals g_outLen g_outCap g_fn g_cn : Int32} {b_text b_len b_stat b_errPos b_removed b_tType b_tA b_tB b_tName b_tMatch b_tCount b_oc b_cc b_newO b_newC b_openName b_openTok b_vKind b_vNum b_vCnt b_vStr b_vItem b_vKey b_vVal b_out b_fv b_cKind b_cSlot b_cTok b_cVal b_cIdx b_dig : Nat → Int32}
section TXT
variable {s n a b : Nat} {T : Nat → Int32}
theorem yd_F (hs : s < 4) (hT : ∀ i, i < 96 → b_text (s * 96 + i) = T i) (hR : ∀ i, i < 96 → T i ≤ 126) (hb : b ≤ 96) (hab : a ≤ b) (hd : ¬ ll_dok T a b) : ∃ o' c' : Nat → Int32, ∀ post : Int32 → SY → Prop, post (-1) (g_ol, g_cl, g_newOl, g_newCl, g_tagName, g_parseErr, g_openCount, g_nVals, g_outLen, g_outCap, g_fn, g_cn, b_text, b_len, b_stat, b_errPos, b_removed, b_tType, b_tA, b_tB, b_tName, b_tMatch, b_tCount, b_oc, b_cc, o', c', b_openName, b_openTok, b_vKind, b_vNum, b_vCnt, b_vStr, b_vItem, b_vKey, b_vVal, b_out, b_fv, b_cKind, b_cSlot, b_cTok, b_cVal, b_cIdx, b_dig) → wpY_setDelim post (g_ol, g_cl, g_newOl, g_newCl, g_tagName, g_parseErr, g_openCount, g_nVals, g_outLen, g_outCap, g_fn, g_cn, b_text, b_len, b_stat, b_errPos, b_removed, b_tType, b_tA, b_tB, b_tName, b_tMatch, b_tCount, b_oc, b_cc, b_newO, b_newC, b_openName, b_openTok, b_vKind, b_vNum, b_vCnt, b_vStr, b_vItem, b_vKey, b_vVal, b_out, b_fv, b_cKind, b_cSlot, b_cTok, b_cVal, b_cIdx, b_dig) (nI s) (nI a) (nI b) := by
  by_cases h3 : a + 3 ≤ b
  · by_cases h61 : T (b - 1) = 61
    · have hB := ll_d_b (T := T) (a := a) (b := b) h3
      have gA : ∀ j, ll_da T a b ≤ j → j < ll_de T a b → ll_gd (T j) := fun j j1 j2 => ll_sm_a _ _ j j1 j2
      have nA : ll_de T a b < ll_dh T a b → ¬ ll_gd (T (ll_de T a b)) := fun w => ll_sm_n (ll_dh T a b - ll_da T a b) (ll_da T a b) (by
        have : ll_sm T (ll_dh T a b - ll_da T a b) (ll_da T a b) = ll_de T a b := rfl
        omega)
      by_cases f : ll_da T a b + 3 < ll_de T a b ∨ (ll_de T a b < ll_dh T a b ∧ T (ll_de T a b) ≠ 32)
      · obtain ⟨o', ho⟩ := yd_AF (g_ol := g_ol) (g_cl := g_cl) (g_newOl := g_newOl) (g_newCl := g_newCl) (g_tagName := g_tagName) (g_parseErr := g_parseErr) (g_openCount := g_openCount) (g_nVals := g_nVals) (g_outLen := g_outLen) (g_outCap := g_outCap) (g_fn := g_fn) (g_cn := g_cn) (b_text := b_text) (b_len := b_len) (b_stat := b_stat) (b_errPos := b_errPos) (b_removed := b_removed) (b_tType := b_tType) (b_tA := b_tA) (b_tB := b_tB) (b_tName := b_tName) (b_tMatch := b_tMatch) (b_tCount := b_tCount) (b_oc := b_oc) (b_cc := b_cc) (b_newO := b_newO) (b_newC := b_newC) (b_openName := b_openName) (b_openTok := b_openTok) (b_vKind := b_vKind) (b_vNum := b_vNum) (b_vCnt := b_vCnt) (b_vStr := b_vStr) (b_vItem := b_vItem) (b_vKey := b_vKey) (b_vVal := b_vVal) (b_out := b_out) (b_fv := b_fv) (b_cKind := b_cKind) (b_cSlot := b_cSlot) (b_cTok := b_cTok) (b_cVal := b_cVal) (b_cIdx := b_cIdx) (b_dig := b_dig) (D := ll_da T a b) (H := ll_dh T a b) (e := ll_de T a b) hs hT hR (by omega) (by omega) gA nA f (ll_de T a b - ll_da T a b) 0 (by omega) (by omega)
        refine ⟨o', b_newC, fun post h => yd_0 hs hT hb h3 h61 ?_⟩
        have r := ho post h
        rw [cy_0] at r
        exact ⟨_, r⟩
      · have f1 : ll_de T a b ≤ ll_da T a b + 3 := by omega
        have f2 : ll_de T a b = ll_dh T a b ∨ T (ll_de T a b) = 32 := by
          by_cases w : ll_de T a b = ll_dh T a b
          · exact Or.inl w
          · refine Or.inr (Classical.byContradiction (fun y => f (Or.inr ⟨by omega, y⟩)))
        have goA : ∀ (c' : Nat → Int32) (post : Int32 → SY → Prop), (wY_setDelim_188 post (nI (s * 96)) (nI (ll_dh T a b)) (nI (ll_de T a b)) (nI (ll_de T a b - ll_da T a b)) g_ol g_cl g_newOl g_newCl g_tagName g_parseErr g_openCount g_nVals g_outLen g_outCap g_fn g_cn b_text b_len b_stat b_errPos b_removed b_tType b_tA b_tB b_tName b_tMatch b_tCount b_oc b_cc (cy_f b_newO (fun j => T (ll_da T a b + j)) (ll_de T a b - ll_da T a b)) b_newC b_openName b_openTok b_vKind b_vNum b_vCnt b_vStr b_vItem b_vKey b_vVal b_out b_fv b_cKind b_cSlot b_cTok b_cVal b_cIdx b_dig) → wpY_setDelim post (g_ol, g_cl, g_newOl, g_newCl, g_tagName, g_parseErr, g_openCount, g_nVals, g_outLen, g_outCap, g_fn, g_cn, b_text, b_len, b_stat, b_errPos, b_removed, b_tType, b_tA, b_tB, b_tName, b_tMatch, b_tCount, b_oc, b_cc, b_newO, b_newC, b_openName, b_openTok, b_vKind, b_vNum, b_vCnt, b_vStr, b_vItem, b_vKey, b_vVal, b_out, b_fv, b_cKind, b_cSlot, b_cTok, b_cVal, b_cIdx, b_dig) (nI s) (nI a) (nI b) := by
          intro c' post h
          refine yd_0 hs hT hb h3 h61 ?_
          have rA := yd_A (g_ol := g_ol) (g_cl := g_cl) (g_newOl := g_newOl) (g_newCl := g_newCl) (g_tagName := g_tagName) (g_parseErr := g_parseErr) (g_openCount := g_openCount) (g_nVals := g_nVals) (g_outLen := g_outLen) (g_outCap := g_outCap) (g_fn := g_fn) (g_cn := g_cn) (b_text := b_text) (b_len := b_len) (b_stat := b_stat) (b_errPos := b_errPos) (b_removed := b_removed) (b_tType := b_tType) (b_tA := b_tA) (b_tB := b_tB) (b_tName := b_tName) (b_tMatch := b_tMatch) (b_tCount := b_tCount) (b_oc := b_oc) (b_cc := b_cc) (b_newO := b_newO) (b_newC := b_newC) (b_openName := b_openName) (b_openTok := b_openTok) (b_vKind := b_vKind) (b_vNum := b_vNum) (b_vCnt := b_vCnt) (b_vStr := b_vStr) (b_vItem := b_vItem) (b_vKey := b_vKey) (b_vVal := b_vVal) (b_out := b_out) (b_fv := b_fv) (b_cKind := b_cKind) (b_cSlot := b_cSlot) (b_cTok := b_cTok) (b_cVal := b_cVal) (b_cIdx := b_cIdx) (b_dig := b_dig) (post := post) (D := ll_da T a b) (H := ll_dh T a b) (e := ll_de T a b) hs hT hR (by omega) (by omega) gA f1 f2 h (ll_de T a b - ll_da T a b) 0 (by omega)
          rw [cy_0] at rA
          exact ⟨_, rA⟩
        by_cases l0 : ll_da T a b < ll_de T a b
        · by_cases dd : ll_db T a b = ll_de T a b
          · refine ⟨cy_f b_newO (fun j => T (ll_da T a b + j)) (ll_de T a b - ll_da T a b), b_newC, fun post h => goA b_newC post (br_t (nI_le (a := 1) (by omega) (by omega)) ⟨_, yd_200 hs hT (by omega) (ll_dh T a b - ll_de T a b) (ll_de T a b) (by omega) (br_t (congrArg nI dd) h)⟩)⟩
          · have hm := ll_sm_b (T := T) (ll_dh T a b - ll_db T a b) (ll_db T a b)
            obtain ⟨c', hc⟩ := yd_BF (g_ol := g_ol) (g_cl := g_cl) (g_newOl := g_newOl) (g_newCl := g_newCl) (g_tagName := g_tagName) (g_parseErr := g_parseErr) (g_openCount := g_openCount) (g_nVals := g_nVals) (g_outLen := g_outLen) (g_outCap := g_outCap) (g_fn := g_fn) (g_cn := g_cn) (b_text := b_text) (b_len := b_len) (b_stat := b_stat) (b_errPos := b_errPos) (b_removed := b_removed) (b_tType := b_tType) (b_tA := b_tA) (b_tB := b_tB) (b_tName := b_tName) (b_tMatch := b_tMatch) (b_tCount := b_tCount) (b_oc := b_oc) (b_cc := b_cc) (b_newO := cy_f b_newO (fun j => T (ll_da T a b + j)) (ll_de T a b - ll_da T a b)) (b_newC := b_newC) (b_openName := b_openName) (b_openTok := b_openTok) (b_vKind := b_vKind) (b_vNum := b_vNum) (b_vCnt := b_vCnt) (b_vStr := b_vStr) (b_vItem := b_vItem) (b_vKey := b_vKey) (b_vVal := b_vVal) (b_out := b_out) (b_fv := b_fv) (b_cKind := b_cKind) (b_cSlot := b_cSlot) (b_cTok := b_cTok) (b_cVal := b_cVal) (b_cIdx := b_cIdx) (b_dig := b_dig) (D := ll_db T a b) (H := ll_dh T a b) (e := ll_sm T (ll_dh T a b - ll_db T a b) (ll_db T a b)) (w := nI (ll_de T a b - ll_da T a b)) hs hT hR (by omega) (by omega) (fun j j1 j2 => ll_sm_a _ _ j j1 j2) (fun w => ll_sm_n _ _ (by omega)) (fun w => hd ⟨h3, h61, w.1, ⟨by omega, f1⟩, w.2⟩) (ll_dh T a b - ll_db T a b) 0 (by omega) (by omega) (by omega)
            refine ⟨cy_f b_newO (fun j => T (ll_da T a b + j)) (ll_de T a b - ll_da T a b), c', fun post h => goA c' post (br_t (nI_le (a := 1) (by omega) (by omega)) ⟨_, yd_200 hs hT (by omega) (ll_dh T a b - ll_de T a b) (ll_de T a b) (by omega) (br_f (fun y => dd (la_im (a := ll_db T a b) (b := ll_de T a b) y (by omega) (by omega))) ?_)⟩)⟩
            have r := hc post h
            rw [cy_0] at r
            exact ⟨_, r⟩
        · refine ⟨cy_f b_newO (fun j => T (ll_da T a b + j)) (ll_de T a b - ll_da T a b), b_newC, fun post h => goA b_newC post (br_f ?_ h)⟩
          rw [show ll_de T a b - ll_da T a b = 0 from by omega]
          decide
    · refine ⟨b_newO, b_newC, fun post h => ?_⟩
      unfold wpY_setDelim
      have e1 : nI (s * 96) + nI b - 1 = nI (s * 96 + (b - 1)) := by rw [nI_add, la_s (by omega)]; exact congrArg nI (by omega)
      have e2 : b_text (nI (s * 96) + nI b - 1).toNatClampNeg = T (b - 1) := by rw [e1, nI_clamp (by omega), hT _ (by omega)]
      exact nm_r (la_m96 s) (pk_lt (b - a) 3 (fun z => by omega) (fun z => ⟨by rw [e1]; exact vp_in_nI (by omega) (by omega), br_f (fun y => h61 (e2.symm.trans y)) h⟩) (pk_sub (by omega)))
  · refine ⟨b_newO, b_newC, fun post h => ?_⟩
    unfold wpY_setDelim
    exact nm_r (la_m96 s) (pk_lt (b - a) 3 (fun z => h) (fun z => by omega) (pk_sub (by omega)))
theorem ll_on_e : ll_on T a a = -1 := by
  unfold ll_on ll_ol ll_of
  rw [Nat.sub_self]
  simp only [ll_sp, Nat.sub_self, ll_sb]
  rw [if_neg (by omega)]
theorem ll_ok_lt (h : ll_ok T a b) (hab : a ≤ b) : a < b := by
  apply Classical.byContradiction
  intro q
  have e : a = b := by omega
  subst e
  have k2 : ll_kd T a a = 2 := by unfold ll_kd; rw [if_neg (by omega)]
  unfold ll_ok at h
  rw [if_neg (by omega), if_neg (by omega), if_neg (by omega)] at h
  unfold ll_na at h
  rw [if_pos k2, ll_on_e] at h
  revert h
  unfold ll_nm
  decide
/-- the kinds by the first character -/
theorem ll_kc_i (c : Int32) : (ll_kc c = 4 ↔ c = 33) ∧ (ll_kc c = 5 ↔ c = 61) ∧ (ll_kc c = 6 ↔ c = 35) ∧ (ll_kc c = 7 ↔ c = 94) ∧ (ll_kc c = 8 ↔ c = 47) ∧ (ll_kc c = 3 ↔ c = 38) ∧ (ll_kc c = 9 ↔ c = 62) := by
  by_cases h1 : c = 33
  · subst h1; decide
  · by_cases h2 : c = 61
    · subst h2; decide
    · by_cases h3 : c = 35
      · subst h3; decide
      · by_cases h4 : c = 94
        · subst h4; decide
        · by_cases h5 : c = 47
          · subst h5; decide
          · by_cases h6 : c = 38
            · subst h6; decide
            · by_cases h7 : c = 62
              · subst h7; decide
              · have e : ll_kc c = 2 := by
                  unfold ll_kc
                  rw [if_neg h1, if_neg h2, if_neg h3, if_neg h4, if_neg h5, if_neg h6, if_neg h7]
                rw [e]
                simp only [h1, h2, h3, h4, h5, h6, h7]
                decide
theorem yl_single' {post : Int32 → Prop} {lo hi : Nat} {x y : Int32} (hs : s < 4) (hT : ∀ i, i < 96 → b_text (s * 96 + i) = T i) (hh : hi ≤ 96) (hl : lo ≤ hi) (hx : x = nI lo) (hy : y = nI hi) (h : post (ll_on T lo hi)) : wpY_single post (g_ol, g_cl, g_newOl, g_newCl, g_tagName, g_parseErr, g_openCount, g_nVals, g_outLen, g_outCap, g_fn, g_cn, b_text, b_len, b_stat, b_errPos, b_removed, b_tType, b_tA, b_tB, b_tName, b_tMatch, b_tCount, b_oc, b_cc, b_newO, b_newC, b_openName, b_openTok, b_vKind, b_vNum, b_vCnt, b_vStr, b_vItem, b_vKey, b_vVal, b_out, b_fv, b_cKind, b_cSlot, b_cTok, b_cVal, b_cIdx, b_dig) (nI s) x y := by
  subst hx hy
  exact yl_single hs hT hh hl h
theorem yc_72 {post : Int32 → SY → Prop} {x4 : Int32} (hs : s < 4) (hT : ∀ i, i < 96 → b_text (s * 96 + i) = T i) (hb : b ≤ 96) (hab : a < b) (hk : ll_kd T a b ≠ 2) (hx : x4 = T a) (hk' : x4 = 35 ∨ x4 = 94 ∨ x4 = 47 ∨ x4 = 38)
    (h1 : ll_nm (ll_na T a b) → post (nI (ll_ty (ll_kd T a b))) (g_ol, g_cl, g_newOl, g_newCl, ll_na T a b, g_parseErr, g_openCount, g_nVals, g_outLen, g_outCap, g_fn, g_cn, b_text, b_len, b_stat, b_errPos, b_removed, b_tType, b_tA, b_tB, b_tName, b_tMatch, b_tCount, b_oc, b_cc, b_newO, b_newC, b_openName, b_openTok, b_vKind, b_vNum, b_vCnt, b_vStr, b_vItem, b_vKey, b_vVal, b_out, b_fv, b_cKind, b_cSlot, b_cTok, b_cVal, b_cIdx, b_dig)) (h0 : ¬ ll_nm (ll_na T a b) → post (-1) (g_ol, g_cl, g_newOl, g_newCl, g_tagName, g_parseErr, g_openCount, g_nVals, g_outLen, g_outCap, g_fn, g_cn, b_text, b_len, b_stat, b_errPos, b_removed, b_tType, b_tA, b_tB, b_tName, b_tMatch, b_tCount, b_oc, b_cc, b_newO, b_newC, b_openName, b_openTok, b_vKind, b_vNum, b_vCnt, b_vStr, b_vItem, b_vKey, b_vVal, b_out, b_fv, b_cKind, b_cSlot, b_cTok, b_cVal, b_cIdx, b_dig)) : wY_classify_72 post (nI s) (nI a) (nI b) x4 g_ol g_cl g_newOl g_newCl g_tagName g_parseErr g_openCount g_nVals g_outLen g_outCap g_fn g_cn b_text b_len b_stat b_errPos b_removed b_tType b_tA b_tB b_tName b_tMatch b_tCount b_oc b_cc b_newO b_newC b_openName b_openTok b_vKind b_vNum b_vCnt b_vStr b_vItem b_vKey b_vVal b_out b_fv b_cKind b_cSlot b_cTok b_cVal b_cIdx b_dig := by
  have e : ll_na T a b = ll_on T (a + 1) b := by unfold ll_na; rw [if_neg hk]
  have ek : ll_kd T a b = ll_kc x4 := by unfold ll_kd; rw [if_pos hab, hx]
  unfold wY_classify_72
  rw [e] at h1 h0
  rw [nI_1]
  refine yl_single (lo := a + 1) hs hT hb (by omega) (yl_isN (fun y => br_f (by decide) ?_) (fun y => br_t rfl (h0 y)))
  have h := h1 y
  rw [ek] at h
  rcases hk' with z | z | z | z
  · subst z; exact br_t rfl h
  · subst z; exact br_f (by decide) (br_t rfl h)
  · subst z; exact br_f (by decide) (br_f (by decide) (br_t rfl h))
  · subst z; exact br_f (by decide) (br_f (by decide) (br_f (by decide) h))
/-- the names' kinds -/
theorem yc_nm {post : Int32 → SY → Prop} (hs : s < 4) (hT : ∀ i, i < 96 → b_text (s * 96 + i) = T i) (hb : b ≤ 96) (hab : a < b) (n4 : ll_kd T a b ≠ 4) (n5 : ll_kd T a b ≠ 5)
    (h1 : ll_ok T a b → post (nI (ll_ty (ll_kd T a b))) (g_ol, g_cl, g_newOl, g_newCl, ll_na T a b, g_parseErr, g_openCount, g_nVals, g_outLen, g_outCap, g_fn, g_cn, b_text, b_len, b_stat, b_errPos, b_removed, b_tType, b_tA, b_tB, b_tName, b_tMatch, b_tCount, b_oc, b_cc, b_newO, b_newC, b_openName, b_openTok, b_vKind, b_vNum, b_vCnt, b_vStr, b_vItem, b_vKey, b_vVal, b_out, b_fv, b_cKind, b_cSlot, b_cTok, b_cVal, b_cIdx, b_dig)) (h0 : ¬ ll_ok T a b → post (-1) (g_ol, g_cl, g_newOl, g_newCl, g_tagName, g_parseErr, g_openCount, g_nVals, g_outLen, g_outCap, g_fn, g_cn, b_text, b_len, b_stat, b_errPos, b_removed, b_tType, b_tA, b_tB, b_tName, b_tMatch, b_tCount, b_oc, b_cc, b_newO, b_newC, b_openName, b_openTok, b_vKind, b_vNum, b_vCnt, b_vStr, b_vItem, b_vKey, b_vVal, b_out, b_fv, b_cKind, b_cSlot, b_cTok, b_cVal, b_cIdx, b_dig)) : wpY_classify post (g_ol, g_cl, g_newOl, g_newCl, g_tagName, g_parseErr, g_openCount, g_nVals, g_outLen, g_outCap, g_fn, g_cn, b_text, b_len, b_stat, b_errPos, b_removed, b_tType, b_tA, b_tB, b_tName, b_tMatch, b_tCount, b_oc, b_cc, b_newO, b_newC, b_openName, b_openTok, b_vKind, b_vNum, b_vCnt, b_vStr, b_vItem, b_vKey, b_vVal, b_out, b_fv, b_cKind, b_cSlot, b_cTok, b_cVal, b_cIdx, b_dig) (nI s) (nI a) (nI b) := by
  have okE : ll_ok T a b ↔ ((ll_kd T a b = 9 → 49 ≤ ll_na T a b ∧ ll_na T a b ≤ 51) ∧ (ll_kd T a b ≠ 9 → ll_nm (ll_na T a b))) := by
    unfold ll_ok
    rw [if_neg n4, if_neg n5]
    by_cases z : ll_kd T a b = 9
    · rw [if_pos z]
      exact ⟨fun y => ⟨fun _ => y, fun w => absurd z w⟩, fun y => y.1 z⟩
    · rw [if_neg z]
      exact ⟨fun y => ⟨fun w => absurd w z, fun _ => y⟩, fun y => y.2 z⟩
  have ek : ll_kd T a b = ll_kc (T a) := by unfold ll_kd; rw [if_pos hab]
  have ki := ll_kc_i (T a)
  rw [← ek] at ki
  have g1 : ll_kd T a b ≠ 9 → ll_nm (ll_na T a b) → post (nI (ll_ty (ll_kd T a b))) (g_ol, g_cl, g_newOl, g_newCl, ll_na T a b, g_parseErr, g_openCount, g_nVals, g_outLen, g_outCap, g_fn, g_cn, b_text, b_len, b_stat, b_errPos, b_removed, b_tType, b_tA, b_tB, b_tName, b_tMatch, b_tCount, b_oc, b_cc, b_newO, b_newC, b_openName, b_openTok, b_vKind, b_vNum, b_vCnt, b_vStr, b_vItem, b_vKey, b_vVal, b_out, b_fv, b_cKind, b_cSlot, b_cTok, b_cVal, b_cIdx, b_dig) := fun y z => h1 (okE.mpr ⟨fun w => absurd w y, fun _ => z⟩)
  have g0 : ll_kd T a b ≠ 9 → ¬ ll_nm (ll_na T a b) → post (-1) (g_ol, g_cl, g_newOl, g_newCl, g_tagName, g_parseErr, g_openCount, g_nVals, g_outLen, g_outCap, g_fn, g_cn, b_text, b_len, b_stat, b_errPos, b_removed, b_tType, b_tA, b_tB, b_tName, b_tMatch, b_tCount, b_oc, b_cc, b_newO, b_newC, b_openName, b_openTok, b_vKind, b_vNum, b_vCnt, b_vStr, b_vItem, b_vKey, b_vVal, b_out, b_fv, b_cKind, b_cSlot, b_cTok, b_cVal, b_cIdx, b_dig) := fun y z => h0 (fun w => z ((okE.mp w).2 y))
  unfold wpY_classify
  refine br_t (nI_lt hab (by omega)) ⟨by rw [la_m96, nI_add]; exact vp_in_nI (by omega) (by omega), nm_r (e' := T a) (by rw [la_m96, nI_add, nI_clamp (by omega)]; exact hT a (by omega)) ?_⟩
  refine br_f (fun y => n4 (ki.1.mpr y)) (br_f (fun y => n5 (ki.2.1.mpr y)) ?_)
  refine br_c (fun y => yc_72 hs hT hb hab ?_ rfl (Or.inl y) (g1 ?_) (g0 ?_)) (fun a3 => br_c (fun y => yc_72 hs hT hb hab ?_ rfl (Or.inr (Or.inl y)) (g1 ?_) (g0 ?_)) (fun a4 => br_c (fun y => yc_72 hs hT hb hab ?_ rfl (Or.inr (Or.inr (Or.inl y))) (g1 ?_) (g0 ?_)) (fun a5 => br_c (fun y => yc_72 hs hT hb hab ?_ rfl (Or.inr (Or.inr (Or.inr y))) (g1 ?_) (g0 ?_)) (fun a6 => br_c (fun y => ?_) (fun a7 => ?_)))))
  · have := ki.2.2.1.mpr y; omega
  · have := ki.2.2.1.mpr y; omega
  · have := ki.2.2.1.mpr y; omega
  · have := ki.2.2.2.1.mpr y; omega
  · have := ki.2.2.2.1.mpr y; omega
  · have := ki.2.2.2.1.mpr y; omega
  · have := ki.2.2.2.2.1.mpr y; omega
  · have := ki.2.2.2.2.1.mpr y; omega
  · have := ki.2.2.2.2.1.mpr y; omega
  · have := ki.2.2.2.2.2.1.mpr y; omega
  · have := ki.2.2.2.2.2.1.mpr y; omega
  · have := ki.2.2.2.2.2.1.mpr y; omega
  · have k9 := ki.2.2.2.2.2.2.mpr y
    have e : ll_na T a b = ll_on T (a + 1) b := by unfold ll_na; rw [if_neg (by omega)]
    rw [k9, e] at h1
    rw [e] at okE
    refine yl_single' (lo := a + 1) (hi := b) hs hT hb (by omega) (nI_1 _) rfl (br_c (fun z => h0 (fun w => absurd ((okE.mp w).1 k9).1 (Int32.not_le.mpr z))) (fun z => br_c (fun z2 => h1 (okE.mpr ⟨fun _ => ⟨Int32.not_lt.mp z, z2⟩, fun w => absurd k9 w⟩)) (fun z2 => h0 (fun w => z2 ((okE.mp w).1 k9).2))))
  · have k2 : ll_kd T a b = 2 := by
      have hb1 := ll_kd_b T a b
      have q3 : ll_kd T a b ≠ 3 := fun y => a6 (ki.2.2.2.2.2.1.mp y)
      have q6 : ll_kd T a b ≠ 6 := fun y => a3 (ki.2.2.1.mp y)
      have q7 : ll_kd T a b ≠ 7 := fun y => a4 (ki.2.2.2.1.mp y)
      have q8 : ll_kd T a b ≠ 8 := fun y => a5 (ki.2.2.2.2.1.mp y)
      have q9 : ll_kd T a b ≠ 9 := fun y => a7 (ki.2.2.2.2.2.2.mp y)
      omega
    have e : ll_na T a b = ll_on T a b := by unfold ll_na; rw [if_pos k2]
    have g1' := g1 (by omega)
    have g0' := g0 (by omega)
    rw [k2, e] at g1'
    rw [e] at g0'
    exact yl_single (lo := a) (hi := b) hs hT hb (by omega) (yl_isN (fun y => br_f (by decide) (g1' y)) (fun y => br_t rfl (g0' y)))
end TXT
end LLYD
end
section
section LLYM
variable {g_ol g_cl g_newOl g_newCl g_tagName g_parseErr g_openCount g_nVals g_outLen g_outCap g_fn g_cn : Int32} {b_text b_len b_stat b_errPos b_removed b_tType b_tA b_tB b_tName b_tMatch b_tCount b_oc b_cc b_newO b_newC b_openName b_openTok b_vKind b_vNum b_vCnt b_vStr b_vItem b_vKey b_vVal b_out b_fv b_cKind b_cSlot b_cTok b_cVal b_cIdx b_dig : Nat → Int32}
section TXT
variable {s n a b q e m : Nat} {T : Nat → Int32}
theorem yc_T (hs : s < 4) (hT : ∀ i, i < 96 → b_text (s * 96 + i) = T i) (hR : ∀ i, i < 96 → T i ≤ 126) (hb : b ≤ 96) (hab : a ≤ b) (hok : ll_ok T a b) : ∃ (o' c' : Nat → Int32) (l1 l2 tn : Int32),
    (ll_kd T a b = 5 → l1 = nI (ll_de T a b - ll_da T a b) ∧ l2 = nI (ll_dh T a b - ll_db T a b) ∧ (∀ i, i < ll_de T a b - ll_da T a b → o' i = T (ll_da T a b + i)) ∧ (∀ i, i < ll_dh T a b - ll_db T a b → c' i = T (ll_db T a b + i))) ∧ (ll_kd T a b ≠ 4 → ll_kd T a b ≠ 5 → tn = ll_na T a b) ∧
    ∀ post : Int32 → SY → Prop, post (nI (ll_ty (ll_kd T a b))) (g_ol, g_cl, l1, l2, tn, g_parseErr, g_openCount, g_nVals, g_outLen, g_outCap, g_fn, g_cn, b_text, b_len, b_stat, b_errPos, b_removed, b_tType, b_tA, b_tB, b_tName, b_tMatch, b_tCount, b_oc, b_cc, o', c', b_openName, b_openTok, b_vKind, b_vNum, b_vCnt, b_vStr, b_vItem, b_vKey, b_vVal, b_out, b_fv, b_cKind, b_cSlot, b_cTok, b_cVal, b_cIdx, b_dig) → wpY_classify post (g_ol, g_cl, g_newOl, g_newCl, g_tagName, g_parseErr, g_openCount, g_nVals, g_outLen, g_outCap, g_fn, g_cn, b_text, b_len, b_stat, b_errPos, b_removed, b_tType, b_tA, b_tB, b_tName, b_tMatch, b_tCount, b_oc, b_cc, b_newO, b_newC, b_openName, b_openTok, b_vKind, b_vNum, b_vCnt, b_vStr, b_vItem, b_vKey, b_vVal, b_out, b_fv, b_cKind, b_cSlot, b_cTok, b_cVal, b_cIdx, b_dig) (nI s) (nI a) (nI b) := by
  have hlt := ll_ok_lt hok hab
  have ek : ll_kd T a b = ll_kc (T a) := by unfold ll_kd; rw [if_pos hlt]
  have ki := ll_kc_i (T a)
  rw [← ek] at ki
  by_cases k4 : ll_kd T a b = 4
  · refine ⟨b_newO, b_newC, g_newOl, g_newCl, g_tagName, fun y => by omega, fun y => absurd k4 y, fun post h => ?_⟩
    rw [k4] at h
    unfold wpY_classify
    exact br_t (nI_lt hlt (by omega)) ⟨by rw [la_m96, nI_add]; exact vp_in_nI (by omega) (by omega), nm_r (e' := T a) (by rw [la_m96, nI_add, nI_clamp (by omega)]; exact hT a (by omega)) (br_t (ki.1.mp k4) h)⟩
  · by_cases k5 : ll_kd T a b = 5
    · have hd : ll_dok T a b := by
        unfold ll_ok at hok
        rw [if_neg k4, if_pos k5] at hok
        exact hok
      refine ⟨cy_f b_newO (fun j => T (ll_da T a b + j)) (ll_de T a b - ll_da T a b), cy_f b_newC (fun j => T (ll_db T a b + j)) (ll_dh T a b - ll_db T a b), _, _, g_tagName, fun _ => ⟨rfl, rfl, fun i hi => cy_in hi, fun i hi => cy_in hi⟩, fun _ y => absurd k5 y, fun post h => ?_⟩
      rw [k5] at h
      unfold wpY_classify
      exact br_t (nI_lt hlt (by omega)) ⟨by rw [la_m96, nI_add]; exact vp_in_nI (by omega) (by omega), nm_r (e' := T a) (by rw [la_m96, nI_add, nI_clamp (by omega)]; exact hT a (by omega)) (br_f (fun y => k4 (ki.1.mpr y)) (br_t (ki.2.1.mp k5) (yd_T hs hT hR hb hd h)))⟩
    · exact ⟨b_newO, b_newC, g_newOl, g_newCl, ll_na T a b, fun y => absurd y k5, fun _ _ => rfl, fun post h => yc_nm hs hT hb hlt k4 k5 (fun _ => h) (fun y => absurd hok y)⟩
theorem yc_F (hs : s < 4) (hT : ∀ i, i < 96 → b_text (s * 96 + i) = T i) (hR : ∀ i, i < 96 → T i ≤ 126) (hb : b ≤ 96) (hab : a ≤ b) (hok : ¬ ll_ok T a b) : ∃ (o' c' : Nat → Int32), ∀ post : Int32 → SY → Prop, post (-1) (g_ol, g_cl, g_newOl, g_newCl, g_tagName, g_parseErr, g_openCount, g_nVals, g_outLen, g_outCap, g_fn, g_cn, b_text, b_len, b_stat, b_errPos, b_removed, b_tType, b_tA, b_tB, b_tName, b_tMatch, b_tCount, b_oc, b_cc, o', c', b_openName, b_openTok, b_vKind, b_vNum, b_vCnt, b_vStr, b_vItem, b_vKey, b_vVal, b_out, b_fv, b_cKind, b_cSlot, b_cTok, b_cVal, b_cIdx, b_dig) → wpY_classify post (g_ol, g_cl, g_newOl, g_newCl, g_tagName, g_parseErr, g_openCount, g_nVals, g_outLen, g_outCap, g_fn, g_cn, b_text, b_len, b_stat, b_errPos, b_removed, b_tType, b_tA, b_tB, b_tName, b_tMatch, b_tCount, b_oc, b_cc, b_newO, b_newC, b_openName, b_openTok, b_vKind, b_vNum, b_vCnt, b_vStr, b_vItem, b_vKey, b_vVal, b_out, b_fv, b_cKind, b_cSlot, b_cTok, b_cVal, b_cIdx, b_dig) (nI s) (nI a) (nI b) := by
  by_cases hlt : a < b
  · have ek : ll_kd T a b = ll_kc (T a) := by unfold ll_kd; rw [if_pos hlt]
    have ki := ll_kc_i (T a)
    rw [← ek] at ki
    by_cases k4 : ll_kd T a b = 4
    · exact absurd (by unfold ll_ok; rw [if_pos k4]; trivial) hok
    · by_cases k5 : ll_kd T a b = 5
      · have hd : ¬ ll_dok T a b := by
          unfold ll_ok at hok
          rw [if_neg k4, if_pos k5] at hok
          exact hok
        obtain ⟨o', c', h'⟩ := yd_F (g_ol := g_ol) (g_cl := g_cl) (g_newOl := g_newOl) (g_newCl := g_newCl) (g_tagName := g_tagName) (g_parseErr := g_parseErr) (g_openCount := g_openCount) (g_nVals := g_nVals) (g_outLen := g_outLen) (g_outCap := g_outCap) (g_fn := g_fn) (g_cn := g_cn) (b_text := b_text) (b_len := b_len) (b_stat := b_stat) (b_errPos := b_errPos) (b_removed := b_removed) (b_tType := b_tType) (b_tA := b_tA) (b_tB := b_tB) (b_tName := b_tName) (b_tMatch := b_tMatch) (b_tCount := b_tCount) (b_oc := b_oc) (b_cc := b_cc) (b_newO := b_newO) (b_newC := b_newC) (b_openName := b_openName) (b_openTok := b_openTok) (b_vKind := b_vKind) (b_vNum := b_vNum) (b_vCnt := b_vCnt) (b_vStr := b_vStr) (b_vItem := b_vItem) (b_vKey := b_vKey) (b_vVal := b_vVal) (b_out := b_out) (b_fv := b_fv) (b_cKind := b_cKind) (b_cSlot := b_cSlot) (b_cTok := b_cTok) (b_cVal := b_cVal) (b_cIdx := b_cIdx) (b_dig := b_dig) hs hT hR hb hab hd
        refine ⟨o', c', fun post h => ?_⟩
        unfold wpY_classify
        exact br_t (nI_lt hlt (by omega)) ⟨by rw [la_m96, nI_add]; exact vp_in_nI (by omega) (by omega), nm_r (e' := T a) (by rw [la_m96, nI_add, nI_clamp (by omega)]; exact hT a (by omega)) (br_f (fun y => k4 (ki.1.mpr y)) (br_t (ki.2.1.mp k5) (h' _ h)))⟩
      · exact ⟨b_newO, b_newC, fun post h => yc_nm hs hT hb hlt k4 k5 (fun y => absurd y hok) (fun _ => h)⟩
  · refine ⟨b_newO, b_newC, fun post h => ?_⟩
    unfold wpY_classify
    exact br_f (nI_nlt (by omega) (by omega)) h
theorem ya_12 {post : SY → Prop} {x2 x3 x4 x5 : Int32} (hs : s < 4) (hm : m < 100) (hC : b_tCount s = nI m) (h : post (g_ol, g_cl, g_newOl, g_newCl, g_tagName, g_parseErr, g_openCount, g_nVals, g_outLen, g_outCap, g_fn, g_cn, b_text, b_len, b_stat, b_errPos, b_removed, upd b_tType (s * 100 + m) x2, upd b_tA (s * 100 + m) x3, upd b_tB (s * 100 + m) x4, upd b_tName (s * 100 + m) x5, upd b_tMatch (s * 100 + m) 0, upd b_tCount s (nI (m + 1)), b_oc, b_cc, b_newO, b_newC, b_openName, b_openTok, b_vKind, b_vNum, b_vCnt, b_vStr, b_vItem, b_vKey, b_vVal, b_out, b_fv, b_cKind, b_cSlot, b_cTok, b_cVal, b_cIdx, b_dig)) : wY_addTok_12 post (nI s) x2 x3 x4 x5 g_ol g_cl g_newOl g_newCl g_tagName g_parseErr g_openCount g_nVals g_outLen g_outCap g_fn g_cn b_text b_len b_stat b_errPos b_removed b_tType b_tA b_tB b_tName b_tMatch b_tCount b_oc b_cc b_newO b_newC b_openName b_openTok b_vKind b_vNum b_vCnt b_vStr b_vItem b_vKey b_vVal b_out b_fv b_cKind b_cSlot b_cTok b_cVal b_cIdx b_dig := by
  have c1 : b_tCount (nI s).toNatClampNeg = nI m := by rw [nI_clamp (by omega)]; exact hC
  have c2 : (nI (s * 100 + m)).toNatClampNeg = s * 100 + m := nI_clamp (by omega)
  have i4 : vp_in (nI s) 4 := vp_in_nI hs (by omega)
  have i400 : vp_in (nI (s * 100 + m)) 400 := vp_in_nI (by omega) (by omega)
  refine ⟨i4, br_t (by rw [c1]; exact nI_lt (b := 100) hm (by decide)) ⟨i4, nm_r (e' := nI (s * 100 + m)) (by rw [c1, la_m100, nI_add]) ⟨i400, nm_r (by rw [c2]) ⟨i400, nm_r (by rw [c2]) ⟨i400, nm_r (by rw [c2]) ⟨i400, nm_r (by rw [c2]) ⟨i400, nm_r (by rw [c2]) ⟨i4, i4, nm_r (e' := upd b_tCount s (nI (m + 1))) (by rw [nI_clamp (show s < 2 ^ 31 from by omega), hC, nI_1]) h⟩⟩⟩⟩⟩⟩⟩⟩
theorem ya_lit {post : SY → Prop} {p : Nat} (hs : s < 4) (hm : m < 100) (hpq : p < q) (hq : q ≤ 96) (hC : b_tCount s = nI m) (h : post (g_ol, g_cl, g_newOl, g_newCl, g_tagName, g_parseErr, g_openCount, g_nVals, g_outLen, g_outCap, g_fn, g_cn, b_text, b_len, b_stat, b_errPos, b_removed, upd b_tType (s * 100 + m) (nI 1), upd b_tA (s * 100 + m) (nI p), upd b_tB (s * 100 + m) (nI q), upd b_tName (s * 100 + m) 0, upd b_tMatch (s * 100 + m) 0, upd b_tCount s (nI (m + 1)), b_oc, b_cc, b_newO, b_newC, b_openName, b_openTok, b_vKind, b_vNum, b_vCnt, b_vStr, b_vItem, b_vKey, b_vVal, b_out, b_fv, b_cKind, b_cSlot, b_cTok, b_cVal, b_cIdx, b_dig)) : wpY_addTok post (g_ol, g_cl, g_newOl, g_newCl, g_tagName, g_parseErr, g_openCount, g_nVals, g_outLen, g_outCap, g_fn, g_cn, b_text, b_len, b_stat, b_errPos, b_removed, b_tType, b_tA, b_tB, b_tName, b_tMatch, b_tCount, b_oc, b_cc, b_newO, b_newC, b_openName, b_openTok, b_vKind, b_vNum, b_vCnt, b_vStr, b_vItem, b_vKey, b_vVal, b_out, b_fv, b_cKind, b_cSlot, b_cTok, b_cVal, b_cIdx, b_dig) (nI s) 1 (nI p) (nI q) 0 :=
  br_t rfl (br_t (nI_lt hpq (by omega)) (ya_12 hs hm hC h))
theorem ya_non {post : SY → Prop} {p : Nat} {x : Int32} (hpq : q ≤ p) (hq : p ≤ 96) (h : post (g_ol, g_cl, g_newOl, g_newCl, g_tagName, g_parseErr, g_openCount, g_nVals, g_outLen, g_outCap, g_fn, g_cn, b_text, b_len, b_stat, b_errPos, b_removed, b_tType, b_tA, b_tB, b_tName, b_tMatch, b_tCount, b_oc, b_cc, b_newO, b_newC, b_openName, b_openTok, b_vKind, b_vNum, b_vCnt, b_vStr, b_vItem, b_vKey, b_vVal, b_out, b_fv, b_cKind, b_cSlot, b_cTok, b_cVal, b_cIdx, b_dig)) : wpY_addTok post (g_ol, g_cl, g_newOl, g_newCl, g_tagName, g_parseErr, g_openCount, g_nVals, g_outLen, g_outCap, g_fn, g_cn, b_text, b_len, b_stat, b_errPos, b_removed, b_tType, b_tA, b_tB, b_tName, b_tMatch, b_tCount, b_oc, b_cc, b_newO, b_newC, b_openName, b_openTok, b_vKind, b_vNum, b_vCnt, b_vStr, b_vItem, b_vKey, b_vVal, b_out, b_fv, b_cKind, b_cSlot, b_cTok, b_cVal, b_cIdx, b_dig) x 1 (nI p) (nI q) 0 :=
  br_t rfl (br_f (nI_nlt hpq (by omega)) h)
theorem ya_tag {post : SY → Prop} {k : Nat} {x5 : Int32} (hs : s < 4) (hm : m < 100) (hk : 2 ≤ k) (hk9 : k ≤ 9) (hC : b_tCount s = nI m) (h : post (g_ol, g_cl, g_newOl, g_newCl, g_tagName, g_parseErr, g_openCount, g_nVals, g_outLen, g_outCap, g_fn, g_cn, b_text, b_len, b_stat, b_errPos, b_removed, upd b_tType (s * 100 + m) (nI k), upd b_tA (s * 100 + m) (nI q), upd b_tB (s * 100 + m) (nI e), upd b_tName (s * 100 + m) x5, upd b_tMatch (s * 100 + m) 0, upd b_tCount s (nI (m + 1)), b_oc, b_cc, b_newO, b_newC, b_openName, b_openTok, b_vKind, b_vNum, b_vCnt, b_vStr, b_vItem, b_vKey, b_vVal, b_out, b_fv, b_cKind, b_cSlot, b_cTok, b_cVal, b_cIdx, b_dig)) : wpY_addTok post (g_ol, g_cl, g_newOl, g_newCl, g_tagName, g_parseErr, g_openCount, g_nVals, g_outLen, g_outCap, g_fn, g_cn, b_text, b_len, b_stat, b_errPos, b_removed, b_tType, b_tA, b_tB, b_tName, b_tMatch, b_tCount, b_oc, b_cc, b_newO, b_newC, b_openName, b_openTok, b_vKind, b_vNum, b_vCnt, b_vStr, b_vItem, b_vKey, b_vVal, b_out, b_fv, b_cKind, b_cSlot, b_cTok, b_cVal, b_cIdx, b_dig) (nI s) (nI k) (nI q) (nI e) x5 :=
  br_f (fun y => by have := la_im (b := 1) y (by omega) (by omega); omega) (ya_12 hs hm hC h)
theorem vb_1 : vp_nar .boolean 1 = 1 := by decide
theorem vb_0 : vp_nar .boolean 0 = 0 := by decide
theorem ym_193 {post : SY → Prop} {le : Nat} (hs : s < 4) (hn : n ≤ 96) (hl : le ≤ n) (h : post (g_ol, g_cl, g_newOl, g_newCl, g_tagName, g_parseErr, g_openCount, g_nVals, g_outLen, g_outCap, g_fn, g_cn, b_text, b_len, b_stat, b_errPos, fl_f b_removed (s * 96 + e) (s * 96 + (if le < n then le + 1 else n)) 1, b_tType, b_tA, b_tB, b_tName, b_tMatch, b_tCount, b_oc, b_cc, b_newO, b_newC, b_openName, b_openTok, b_vKind, b_vNum, b_vCnt, b_vStr, b_vItem, b_vKey, b_vVal, b_out, b_fv, b_cKind, b_cSlot, b_cTok, b_cVal, b_cIdx, b_dig)) : ∀ d i, i + d = le → e ≤ i → wY_markStandalone_193 post (nI (s * 96)) (nI n) (nI le) g_ol g_cl g_newOl g_newCl g_tagName g_parseErr g_openCount g_nVals g_outLen g_outCap g_fn g_cn (d + 1) (nI i) b_text b_len b_stat b_errPos (fl_f b_removed (s * 96 + e) (s * 96 + i) 1) b_tType b_tA b_tB b_tName b_tMatch b_tCount b_oc b_cc b_newO b_newC b_openName b_openTok b_vKind b_vNum b_vCnt b_vStr b_vItem b_vKey b_vVal b_out b_fv b_cKind b_cSlot b_cTok b_cVal b_cIdx b_dig := by
  intro d
  induction d with
  | zero =>
    intro i hi hei
    have e2 : i = le := by omega
    subst e2
    refine br_t (nI_le (by omega) (by omega)) (pk_le n i (fun z => ?_) (fun z => ⟨by rw [nI_add]; exact vp_in_nI (by omega) (by omega), nm_r ?_ h⟩))
    · rw [if_neg (by omega), show n = i from by omega] at h
      exact h
    · rw [nI_add, nI_clamp (by omega), vb_1, if_pos z]
      exact fl_s (by omega)
  | succ d ih =>
    intro i hi hei
    refine br_f (nI_ge (by omega) (by omega)) ⟨by rw [nI_add]; exact vp_in_nI (by omega) (by omega), nm_r ?_ (nm_r (nI_1 _) (ih (i + 1) (by omega) (by omega)))⟩
    rw [nI_add, nI_clamp (by omega), vb_1]
    exact fl_s (by omega)
theorem ym_167 {post : SY → Prop} {le lo : Nat} (hs : s < 4) (hn : n ≤ 96) (hl : le ≤ n) (he : e ≤ le) (hq : q ≤ 96) (h : post (g_ol, g_cl, g_newOl, g_newCl, g_tagName, g_parseErr, g_openCount, g_nVals, g_outLen, g_outCap, g_fn, g_cn, b_text, b_len, b_stat, b_errPos, fl_f (fl_f b_removed (s * 96 + lo) (s * 96 + q) 1) (s * 96 + e) (s * 96 + (if le < n then le + 1 else n)) 1, b_tType, b_tA, b_tB, b_tName, b_tMatch, b_tCount, b_oc, b_cc, b_newO, b_newC, b_openName, b_openTok, b_vKind, b_vNum, b_vCnt, b_vStr, b_vItem, b_vKey, b_vVal, b_out, b_fv, b_cKind, b_cSlot, b_cTok, b_cVal, b_cIdx, b_dig)) : ∀ d i, i + d = q → lo ≤ i → wY_markStandalone_167 post (nI q) (nI e) (nI (s * 96)) (nI n) (nI le) g_ol g_cl g_newOl g_newCl g_tagName g_parseErr g_openCount g_nVals g_outLen g_outCap g_fn g_cn (d + 1) (nI i) b_text b_len b_stat b_errPos (fl_f b_removed (s * 96 + lo) (s * 96 + i) 1) b_tType b_tA b_tB b_tName b_tMatch b_tCount b_oc b_cc b_newO b_newC b_openName b_openTok b_vKind b_vNum b_vCnt b_vStr b_vItem b_vKey b_vVal b_out b_fv b_cKind b_cSlot b_cTok b_cVal b_cIdx b_dig := by
  intro d
  induction d with
  | zero =>
    intro i hi hei
    have e2 : i = q := by omega
    subst e2
    have r := ym_193 (g_ol := g_ol) (g_cl := g_cl) (g_newOl := g_newOl) (g_newCl := g_newCl) (g_tagName := g_tagName) (g_parseErr := g_parseErr) (g_openCount := g_openCount) (g_nVals := g_nVals) (g_outLen := g_outLen) (g_outCap := g_outCap) (g_fn := g_fn) (g_cn := g_cn) (b_text := b_text) (b_len := b_len) (b_stat := b_stat) (b_errPos := b_errPos) (b_removed := fl_f b_removed (s * 96 + lo) (s * 96 + i) 1) (b_tType := b_tType) (b_tA := b_tA) (b_tB := b_tB) (b_tName := b_tName) (b_tMatch := b_tMatch) (b_tCount := b_tCount) (b_oc := b_oc) (b_cc := b_cc) (b_newO := b_newO) (b_newC := b_newC) (b_openName := b_openName) (b_openTok := b_openTok) (b_vKind := b_vKind) (b_vNum := b_vNum) (b_vCnt := b_vCnt) (b_vStr := b_vStr) (b_vItem := b_vItem) (b_vKey := b_vKey) (b_vVal := b_vVal) (b_out := b_out) (b_fv := b_fv) (b_cKind := b_cKind) (b_cSlot := b_cSlot) (b_cTok := b_cTok) (b_cVal := b_cVal) (b_cIdx := b_cIdx) (b_dig := b_dig) (post := post) (n := n) (e := e) (le := le) hs hn hl h (le - e) e (by omega) (Nat.le_refl _)
    rw [fl_0 (Nat.le_refl (s * 96 + e))] at r
    exact br_t (nI_le (by omega) (by omega)) ⟨_, r⟩
  | succ d ih =>
    intro i hi hei
    refine br_f (nI_ge (by omega) (by omega)) ⟨by rw [nI_add]; exact vp_in_nI (by omega) (by omega), nm_r ?_ (nm_r (nI_1 _) (ih (i + 1) (by omega) (by omega)))⟩
    rw [nI_add, nI_clamp (by omega), vb_1]
    exact fl_s (by omega)
theorem ym_134 {post : SY → Prop} {le : Nat} {x6 : Int32} (hs : s < 4) (hT : ∀ i, i < 96 → b_text (s * 96 + i) = T i) (hl : le ≤ 96) (h1 : (∀ i, e ≤ i → i < le → T i = 32) → ∃ n167, wY_markStandalone_167 post (nI q) (nI e) (nI (s * 96)) (nI n) (nI le) g_ol g_cl g_newOl g_newCl g_tagName g_parseErr g_openCount g_nVals g_outLen g_outCap g_fn g_cn n167 x6 b_text b_len b_stat b_errPos b_removed b_tType b_tA b_tB b_tName b_tMatch b_tCount b_oc b_cc b_newO b_newC b_openName b_openTok b_vKind b_vNum b_vCnt b_vStr b_vItem b_vKey b_vVal b_out b_fv b_cKind b_cSlot b_cTok b_cVal b_cIdx b_dig) (h0 : ¬ (∀ i, e ≤ i → i < le → T i = 32) → post (g_ol, g_cl, g_newOl, g_newCl, g_tagName, g_parseErr, g_openCount, g_nVals, g_outLen, g_outCap, g_fn, g_cn, b_text, b_len, b_stat, b_errPos, b_removed, b_tType, b_tA, b_tB, b_tName, b_tMatch, b_tCount, b_oc, b_cc, b_newO, b_newC, b_openName, b_openTok, b_vKind, b_vNum, b_vCnt, b_vStr, b_vItem, b_vKey, b_vVal, b_out, b_fv, b_cKind, b_cSlot, b_cTok, b_cVal, b_cIdx, b_dig)) : ∀ d i, i + d = le → e ≤ i → (∀ j, e ≤ j → j < i → T j = 32) → wY_markStandalone_134 post (nI q) (nI e) (nI (s * 96)) (nI n) x6 (nI le) g_ol g_cl g_newOl g_newCl g_tagName g_parseErr g_openCount g_nVals g_outLen g_outCap g_fn g_cn b_text b_len b_stat b_errPos b_removed b_tType b_tA b_tB b_tName b_tMatch b_tCount b_oc b_cc b_newO b_newC b_openName b_openTok b_vKind b_vNum b_vCnt b_vStr b_vItem b_vKey b_vVal b_out b_fv b_cKind b_cSlot b_cTok b_cVal b_cIdx b_dig (d + 1) (nI i) := by
  intro d
  induction d with
  | zero =>
    intro i hi hei g
    have e2 : i = le := by omega
    subst e2
    exact br_t (nI_le (by omega) (by omega)) (h1 g)
  | succ d ih =>
    intro i hi hei g
    have e2 : b_text (nI (s * 96) + nI i).toNatClampNeg = T i := by rw [nI_add, nI_clamp (by omega), hT _ (by omega)]
    refine br_f (nI_ge (by omega) (by omega)) ⟨by rw [nI_add]; exact vp_in_nI (by omega) (by omega), ?_⟩
    by_cases z : T i = 32
    · refine br_t (e2.trans z) (nm_r (nI_1 _) (ih (i + 1) (by omega) (by omega) (fun j j1 j2 => ?_)))
      by_cases w : j = i
      · rw [w]; exact z
      · exact g j j1 (by omega)
    · exact br_f (fun y => z (e2.symm.trans y)) (h0 (fun w => z (w i hei (by omega))))
theorem ym_96 {post : SY → Prop} {x6 : Int32} (hs : s < 4) (hT : ∀ i, i < 96 → b_text (s * 96 + i) = T i) (hn : n ≤ 96) : ∀ d i, i + d = n → (∃ n134, wY_markStandalone_134 post (nI q) (nI e) (nI (s * 96)) (nI n) x6 (nI (ll_nf T d i)) g_ol g_cl g_newOl g_newCl g_tagName g_parseErr g_openCount g_nVals g_outLen g_outCap g_fn g_cn b_text b_len b_stat b_errPos b_removed b_tType b_tA b_tB b_tName b_tMatch b_tCount b_oc b_cc b_newO b_newC b_openName b_openTok b_vKind b_vNum b_vCnt b_vStr b_vItem b_vKey b_vVal b_out b_fv b_cKind b_cSlot b_cTok b_cVal b_cIdx b_dig n134 (nI e)) → wY_markStandalone_96 post (nI q) (nI e) (nI (s * 96)) (nI n) x6 (nI n) g_ol g_cl g_newOl g_newCl g_tagName g_parseErr g_openCount g_nVals g_outLen g_outCap g_fn g_cn b_text b_len b_stat b_errPos b_removed b_tType b_tA b_tB b_tName b_tMatch b_tCount b_oc b_cc b_newO b_newC b_openName b_openTok b_vKind b_vNum b_vCnt b_vStr b_vItem b_vKey b_vVal b_out b_fv b_cKind b_cSlot b_cTok b_cVal b_cIdx b_dig (d + 1) (nI i) := by
  intro d
  induction d with
  | zero =>
    intro i hi h
    have e2 : i = n := by omega
    subst e2
    exact br_t (nI_le (by omega) (by omega)) h
  | succ d ih =>
    intro i hi h
    rw [ll_nf_u] at h
    have e2 : b_text (nI (s * 96) + nI i).toNatClampNeg = T i := by rw [nI_add, nI_clamp (by omega), hT _ (by omega)]
    refine br_f (nI_ge (by omega) (by omega)) ⟨by rw [nI_add]; exact vp_in_nI (by omega) (by omega), ?_⟩
    by_cases z : T i = 10
    · rw [if_pos z] at h
      exact br_t (e2.trans z) h
    · rw [if_neg z] at h
      exact br_f (fun y => z (e2.symm.trans y)) (nm_r (nI_1 _) (ih (i + 1) (by omega) h))
theorem ym_61 {post : SY → Prop} {lo : Nat} (hs : s < 4) (hT : ∀ i, i < 96 → b_text (s * 96 + i) = T i) (hq : q ≤ 96) (h1 : (∀ i, lo ≤ i → i < q → T i = 32) → ∃ n96, wY_markStandalone_96 post (nI q) (nI e) (nI (s * 96)) (nI n) (nI lo) (nI n) g_ol g_cl g_newOl g_newCl g_tagName g_parseErr g_openCount g_nVals g_outLen g_outCap g_fn g_cn b_text b_len b_stat b_errPos b_removed b_tType b_tA b_tB b_tName b_tMatch b_tCount b_oc b_cc b_newO b_newC b_openName b_openTok b_vKind b_vNum b_vCnt b_vStr b_vItem b_vKey b_vVal b_out b_fv b_cKind b_cSlot b_cTok b_cVal b_cIdx b_dig n96 (nI e)) (h0 : ¬ (∀ i, lo ≤ i → i < q → T i = 32) → post (g_ol, g_cl, g_newOl, g_newCl, g_tagName, g_parseErr, g_openCount, g_nVals, g_outLen, g_outCap, g_fn, g_cn, b_text, b_len, b_stat, b_errPos, b_removed, b_tType, b_tA, b_tB, b_tName, b_tMatch, b_tCount, b_oc, b_cc, b_newO, b_newC, b_openName, b_openTok, b_vKind, b_vNum, b_vCnt, b_vStr, b_vItem, b_vKey, b_vVal, b_out, b_fv, b_cKind, b_cSlot, b_cTok, b_cVal, b_cIdx, b_dig)) : ∀ d i, i + d = q → lo ≤ i → (∀ j, lo ≤ j → j < i → T j = 32) → wY_markStandalone_61 post (nI q) (nI e) (nI (s * 96)) (nI n) (nI lo) g_ol g_cl g_newOl g_newCl g_tagName g_parseErr g_openCount g_nVals g_outLen g_outCap g_fn g_cn b_text b_len b_stat b_errPos b_removed b_tType b_tA b_tB b_tName b_tMatch b_tCount b_oc b_cc b_newO b_newC b_openName b_openTok b_vKind b_vNum b_vCnt b_vStr b_vItem b_vKey b_vVal b_out b_fv b_cKind b_cSlot b_cTok b_cVal b_cIdx b_dig (d + 1) (nI i) := by
  intro d
  induction d with
  | zero =>
    intro i hi hei g
    have e2 : i = q := by omega
    subst e2
    exact br_t (nI_le (by omega) (by omega)) (h1 g)
  | succ d ih =>
    intro i hi hei g
    have e2 : b_text (nI (s * 96) + nI i).toNatClampNeg = T i := by rw [nI_add, nI_clamp (by omega), hT _ (by omega)]
    refine br_f (nI_ge (by omega) (by omega)) ⟨by rw [nI_add]; exact vp_in_nI (by omega) (by omega), ?_⟩
    by_cases z : T i = 32
    · refine br_t (e2.trans z) (nm_r (nI_1 _) (ih (i + 1) (by omega) (by omega) (fun j j1 j2 => ?_)))
      by_cases w : j = i
      · rw [w]; exact z
      · exact g j j1 (by omega)
    · exact br_f (fun y => z (e2.symm.trans y)) (h0 (fun w => z (w i hei (by omega))))
theorem ym_22 {post : SY → Prop} (hs : s < 4) (hT : ∀ i, i < 96 → b_text (s * 96 + i) = T i) : ∀ p, p ≤ 96 → (∃ n61, wY_markStandalone_61 post (nI q) (nI e) (nI (s * 96)) (nI n) (nI (ll_nb T p)) g_ol g_cl g_newOl g_newCl g_tagName g_parseErr g_openCount g_nVals g_outLen g_outCap g_fn g_cn b_text b_len b_stat b_errPos b_removed b_tType b_tA b_tB b_tName b_tMatch b_tCount b_oc b_cc b_newO b_newC b_openName b_openTok b_vKind b_vNum b_vCnt b_vStr b_vItem b_vKey b_vVal b_out b_fv b_cKind b_cSlot b_cTok b_cVal b_cIdx b_dig n61 (nI (ll_nb T p))) → wY_markStandalone_22 post (nI q) (nI e) (nI (s * 96)) (nI n) 0 g_ol g_cl g_newOl g_newCl g_tagName g_parseErr g_openCount g_nVals g_outLen g_outCap g_fn g_cn b_text b_len b_stat b_errPos b_removed b_tType b_tA b_tB b_tName b_tMatch b_tCount b_oc b_cc b_newO b_newC b_openName b_openTok b_vKind b_vNum b_vCnt b_vStr b_vItem b_vKey b_vVal b_out b_fv b_cKind b_cSlot b_cTok b_cVal b_cIdx b_dig (p + 1) (nI p - 1) := by
  intro p
  induction p with
  | zero => intro hp h; exact br_t (by decide) h
  | succ p ih =>
    intro hp h
    rw [ll_nb_u] at h
    rw [nI_pred]
    have e2 : b_text (nI (s * 96) + nI p).toNatClampNeg = T p := by rw [nI_add, nI_clamp (by omega), hT _ (by omega)]
    refine br_f (nI_pos (by omega)) ⟨by rw [nI_add]; exact vp_in_nI (by omega) (by omega), ?_⟩
    by_cases z : T p = 10
    · rw [if_pos z] at h
      exact br_t (e2.trans z) (nm_r (nI_1 _) h)
    · rw [if_neg z] at h
      exact br_f (fun y => z (e2.symm.trans y)) (nm_r (Int32.sub_eq_add_neg _ _).symm (ih (by omega) h))
theorem ym_E (hs : s < 4) (hT : ∀ i, i < 96 → b_text (s * 96 + i) = T i) (hL : b_len s = nI n) (hn : n ≤ 96) (hq : q < e) (he : e ≤ n) :
    ∃ R' : Nat → Int32, (∀ c, c < n → (rm_P T n q e c → R' (s * 96 + c) = 1) ∧ (¬ rm_P T n q e c → R' (s * 96 + c) = b_removed (s * 96 + c))) ∧ (∀ j, j < s * 96 ∨ s * 96 + 96 ≤ j → R' j = b_removed j) ∧
    ∀ post : SY → Prop, post (g_ol, g_cl, g_newOl, g_newCl, g_tagName, g_parseErr, g_openCount, g_nVals, g_outLen, g_outCap, g_fn, g_cn, b_text, b_len, b_stat, b_errPos, R', b_tType, b_tA, b_tB, b_tName, b_tMatch, b_tCount, b_oc, b_cc, b_newO, b_newC, b_openName, b_openTok, b_vKind, b_vNum, b_vCnt, b_vStr, b_vItem, b_vKey, b_vVal, b_out, b_fv, b_cKind, b_cSlot, b_cTok, b_cVal, b_cIdx, b_dig) → wpY_markStandalone post (g_ol, g_cl, g_newOl, g_newCl, g_tagName, g_parseErr, g_openCount, g_nVals, g_outLen, g_outCap, g_fn, g_cn, b_text, b_len, b_stat, b_errPos, b_removed, b_tType, b_tA, b_tB, b_tName, b_tMatch, b_tCount, b_oc, b_cc, b_newO, b_newC, b_openName, b_openTok, b_vKind, b_vNum, b_vCnt, b_vStr, b_vItem, b_vKey, b_vVal, b_out, b_fv, b_cKind, b_cSlot, b_cTok, b_cVal, b_cIdx, b_dig) (nI s) (nI q) (nI e) := by
  have b1 := ll_sb_b (T := T) q q (Nat.le_refl _)
  have b2 := ll_sp_b (T := T) (n - e) e
  have b3 := ll_nb_le (T := T) q
  have b4 := ll_nf_b (T := T) (n - e) e
  have l1 := ll_nb_sb (T := T) q
  have l2 := ll_nf_sp (T := T) (n - e) e
  rw [show e + (n - e) = n from by omega] at l2
  have start : ∀ post : SY → Prop, (∃ n61, wY_markStandalone_61 post (nI q) (nI e) (nI (s * 96)) (nI n) (nI (ll_nb T q)) g_ol g_cl g_newOl g_newCl g_tagName g_parseErr g_openCount g_nVals g_outLen g_outCap g_fn g_cn b_text b_len b_stat b_errPos b_removed b_tType b_tA b_tB b_tName b_tMatch b_tCount b_oc b_cc b_newO b_newC b_openName b_openTok b_vKind b_vNum b_vCnt b_vStr b_vItem b_vKey b_vVal b_out b_fv b_cKind b_cSlot b_cTok b_cVal b_cIdx b_dig n61 (nI (ll_nb T q))) → wpY_markStandalone post (g_ol, g_cl, g_newOl, g_newCl, g_tagName, g_parseErr, g_openCount, g_nVals, g_outLen, g_outCap, g_fn, g_cn, b_text, b_len, b_stat, b_errPos, b_removed, b_tType, b_tA, b_tB, b_tName, b_tMatch, b_tCount, b_oc, b_cc, b_newO, b_newC, b_openName, b_openTok, b_vKind, b_vNum, b_vCnt, b_vStr, b_vItem, b_vKey, b_vVal, b_out, b_fv, b_cKind, b_cSlot, b_cTok, b_cVal, b_cIdx, b_dig) (nI s) (nI q) (nI e) := fun post h => by
    unfold wpY_markStandalone
    exact nm_r (la_m96 s) ⟨vp_in_nI hs (by omega), nm_r (e' := nI n) (by rw [nI_clamp (by omega)]; exact hL) (nm_e ⟨_, ym_22 hs hT q (by omega) h⟩)⟩
  by_cases g1 : ∀ i, ll_nb T q ≤ i → i < q → T i = 32
  · by_cases g2 : ∀ i, e ≤ i → i < ll_nf T (n - e) e → T i = 32
    · have e1 := l1.2 g1
      have e2 := l2.2 g2
      have s1 := l1.1.mp g1
      have s2 := l2.1.mp g2
      refine ⟨fl_f (fl_f b_removed (s * 96 + ll_nb T q) (s * 96 + q) 1) (s * 96 + e) (s * 96 + (if ll_nf T (n - e) e < n then ll_nf T (n - e) e + 1 else n)) 1, fun c hc => ⟨fun y => ?_, fun y => ?_⟩, fun j hj => ?_, fun post h => start post ⟨_, ym_61 hs hT (by omega) (fun _ => ⟨_, ym_96 hs hT hn (n - e) e (by omega) ⟨_, ym_134 hs hT (by omega) (fun _ => ?_) (fun w => absurd g2 w) (ll_nf T (n - e) e - e) e (by omega) (Nat.le_refl _) (fun j j1 j2 => by omega)⟩⟩) (fun w => absurd g1 w) (q - ll_nb T q) (ll_nb T q) (by omega) (Nat.le_refl _) (fun j j1 j2 => by omega)⟩⟩
      · obtain ⟨_, _, y⟩ := y
        rw [e1, e2]
        by_cases w : e ≤ c
        · refine fl_in (by omega) ?_
          split <;> omega
        · rw [fl_out (by omega), fl_in (by omega) (by omega)]
      · have y' : ¬ ((ll_sb T q q ≤ c ∧ c < q) ∨ (e ≤ c ∧ c ≤ ll_sp T (n - e) e ∧ c < n)) := fun w => y ⟨s1, s2, w⟩
        rw [e1, e2, fl_out (by split <;> omega), fl_out (by omega)]
      · rw [fl_out (by split <;> omega), fl_out (by omega)]
      · have r := ym_167 (g_ol := g_ol) (g_cl := g_cl) (g_newOl := g_newOl) (g_newCl := g_newCl) (g_tagName := g_tagName) (g_parseErr := g_parseErr) (g_openCount := g_openCount) (g_nVals := g_nVals) (g_outLen := g_outLen) (g_outCap := g_outCap) (g_fn := g_fn) (g_cn := g_cn) (b_text := b_text) (b_len := b_len) (b_stat := b_stat) (b_errPos := b_errPos) (b_removed := b_removed) (b_tType := b_tType) (b_tA := b_tA) (b_tB := b_tB) (b_tName := b_tName) (b_tMatch := b_tMatch) (b_tCount := b_tCount) (b_oc := b_oc) (b_cc := b_cc) (b_newO := b_newO) (b_newC := b_newC) (b_openName := b_openName) (b_openTok := b_openTok) (b_vKind := b_vKind) (b_vNum := b_vNum) (b_vCnt := b_vCnt) (b_vStr := b_vStr) (b_vItem := b_vItem) (b_vKey := b_vKey) (b_vVal := b_vVal) (b_out := b_out) (b_fv := b_fv) (b_cKind := b_cKind) (b_cSlot := b_cSlot) (b_cTok := b_cTok) (b_cVal := b_cVal) (b_cIdx := b_cIdx) (b_dig := b_dig) (post := post) (n := n) (q := q) (e := e) (le := ll_nf T (n - e) e) (lo := ll_nb T q) hs hn (by omega) (by omega) (by omega) h (q - ll_nb T q) (ll_nb T q) (by omega) (Nat.le_refl _)
        rw [fl_0 (Nat.le_refl (s * 96 + ll_nb T q))] at r
        exact ⟨_, r⟩
    · refine ⟨b_removed, fun c hc => ⟨fun y => absurd (l2.1.mpr y.2.1) g2, fun _ => rfl⟩, fun _ _ => rfl, fun post h => start post ⟨_, ym_61 hs hT (by omega) (fun _ => ⟨_, ym_96 hs hT hn (n - e) e (by omega) ⟨_, ym_134 hs hT (by omega) (fun w => absurd w g2) (fun _ => h) (ll_nf T (n - e) e - e) e (by omega) (Nat.le_refl _) (fun j j1 j2 => by omega)⟩⟩) (fun w => absurd g1 w) (q - ll_nb T q) (ll_nb T q) (by omega) (Nat.le_refl _) (fun j j1 j2 => by omega)⟩⟩
  · refine ⟨b_removed, fun c hc => ⟨fun y => absurd (l1.1.mpr y.1) g1, fun _ => rfl⟩, fun _ _ => rfl, fun post h => start post ⟨_, ym_61 hs hT (by omega) (fun w => absurd w g1) (fun _ => h) (q - ll_nb T q) (ll_nb T q) (by omega) (Nat.le_refl _) (fun j j1 j2 => by omega)⟩⟩
end TXT
end LLYM
end
section
section LLYS
/-! one tag on Y's side -/
def fr_Y (s : Nat) (R ty tA tB tN tM tC R' ty' tA' tB' tN' tM' tC' : Nat → Int32) : Prop := (∀ s', s' ≠ s → tC' s' = tC s') ∧ (∀ s' c, s' ≠ s → c < 96 → R' (s' * 96 + c) = R (s' * 96 + c)) ∧ (∀ s' j, s' ≠ s → j < 100 → ty' (s' * 100 + j) = ty (s' * 100 + j) ∧ tA' (s' * 100 + j) = tA (s' * 100 + j) ∧ tB' (s' * 100 + j) = tB (s' * 100 + j) ∧ tN' (s' * 100 + j) = tN (s' * 100 + j) ∧ tM' (s' * 100 + j) = tM (s' * 100 + j))
theorem fr_rf {s : Nat} {R ty tA tB tN tM tC : Nat → Int32} : fr_Y s R ty tA tB tN tM tC R ty tA tB tN tM tC := ⟨fun _ _ => rfl, fun _ _ _ _ => rfl, fun _ _ _ _ => ⟨rfl, rfl, rfl, rfl, rfl⟩⟩
theorem fr_tr {s : Nat} {R ty tA tB tN tM tC R' ty' tA' tB' tN' tM' tC' R'' ty'' tA'' tB'' tN'' tM'' tC'' : Nat → Int32} (h : fr_Y s R ty tA tB tN tM tC R' ty' tA' tB' tN' tM' tC') (h' : fr_Y s R' ty' tA' tB' tN' tM' tC' R'' ty'' tA'' tB'' tN'' tM'' tC'') : fr_Y s R ty tA tB tN tM tC R'' ty'' tA'' tB'' tN'' tM'' tC'' :=
  ⟨fun s' z => (h'.1 s' z).trans (h.1 s' z), fun s' c z w => (h'.2.1 s' c z w).trans (h.2.1 s' c z w), fun s' j z w => ⟨(h'.2.2 s' j z w).1.trans (h.2.2 s' j z w).1, (h'.2.2 s' j z w).2.1.trans (h.2.2 s' j z w).2.1, (h'.2.2 s' j z w).2.2.1.trans (h.2.2 s' j z w).2.2.1, (h'.2.2 s' j z w).2.2.2.1.trans (h.2.2 s' j z w).2.2.2.1, (h'.2.2 s' j z w).2.2.2.2.trans (h.2.2 s' j z w).2.2.2.2⟩⟩
theorem fr_tok {s m : Nat} {R ty tA tB tN tM tC R' : Nat → Int32} {a b c d e f : Int32} (hm : m < 100) (hR : ∀ j, j < s * 96 ∨ s * 96 + 96 ≤ j → R' j = R j) : fr_Y s R ty tA tB tN tM tC R' (upd ty (s * 100 + m) a) (upd tA (s * 100 + m) b) (upd tB (s * 100 + m) c) (upd tN (s * 100 + m) d) (upd tM (s * 100 + m) e) (upd tC s f) := by
  refine ⟨fun s' z => pk_un z, fun s' c z w => hR _ (by omega), fun s' j z w => ?_⟩
  have : s' * 100 + j ≠ s * 100 + m := by omega
  exact ⟨pk_un this, pk_un this, pk_un this, pk_un this, pk_un this⟩
theorem fr_mt {s m : Nat} {R ty tA tB tN tM tC : Nat → Int32} {a : Int32} (hm : m < 100) : fr_Y s R ty tA tB tN tM tC R ty tA tB tN (upd tM (s * 100 + m) a) tC := by
  refine ⟨fun s' z => rfl, fun s' c z w => rfl, fun s' j z w => ⟨rfl, rfl, rfl, rfl, pk_un (by omega)⟩⟩
theorem up_3 {f g : Nat → Int32} {i : Nat} (hi : i < 3) : upd (upd (upd f 0 (g 0)) 1 (g 1)) 2 (g 2) i = g i := by
  by_cases h2 : i = 2
  · rw [h2, pk_us]
  · rw [pk_un h2]
    by_cases h1 : i = 1
    · rw [h1, pk_us]
    · rw [pk_un h1]
      have h0 : i = 0 := by omega
      rw [h0, pk_us]
variable {g_ol g_cl g_newOl g_newCl g_tagName g_parseErr g_openCount g_nVals g_outLen g_outCap g_fn g_cn : Int32} {b_text b_len b_stat b_errPos b_removed b_tType b_tA b_tB b_tName b_tMatch b_tCount b_oc b_cc b_newO b_newC b_openName b_openTok b_vKind b_vNum b_vCnt b_vStr b_vItem b_vKey b_vVal b_out b_fv b_cKind b_cSlot b_cTok b_cVal b_cIdx b_dig : Nat → Int32}
section TXT
variable {s n p q e m ol cl sp : Nat} {ps tp : Nat → Nat} {st : Nat → List Nat} {T K N E G oM cM oT O : Nat → Int32}
theorem yl_findE0 {post : Int32 → Prop} {l x : Nat} {r : Option Nat} (hs : s < 4) (hT : ∀ i, i < 96 → b_text (s * 96 + i) = T i) (hL : b_len s = nI n) (hl : l ≤ 3) (hn : n ≤ 96) (hx : x ≤ n) (hO : ∀ j, j < l → b_oc j = O j) (hf : ll_fd T O l n (n + 1 - x) x = r) (h : post (ll_oY r)) : wpY_findDelim post (nI l, g_cl, g_newOl, g_newCl, g_tagName, g_parseErr, g_openCount, g_nVals, g_outLen, g_outCap, g_fn, g_cn, b_text, b_len, b_stat, b_errPos, b_removed, b_tType, b_tA, b_tB, b_tName, b_tMatch, b_tCount, b_oc, b_cc, b_newO, b_newC, b_openName, b_openTok, b_vKind, b_vNum, b_vCnt, b_vStr, b_vItem, b_vKey, b_vVal, b_out, b_fv, b_cKind, b_cSlot, b_cTok, b_cVal, b_cIdx, b_dig) (nI s) (nI x) 0 := by
  subst hf
  exact yl_find0 hs hT hL hl hn hx hO h
theorem yl_findE1 {post : Int32 → Prop} {l x : Nat} {r : Option Nat} {y : Int32} (hs : s < 4) (hT : ∀ i, i < 96 → b_text (s * 96 + i) = T i) (hL : b_len s = nI n) (hl : l ≤ 3) (hn : n ≤ 96) (hx : x ≤ n) (hO : ∀ j, j < l → b_cc j = O j) (hf : ll_fd T O l n (n + 1 - x) x = r) (hy : y = nI x) (h : post (ll_oY r)) : wpY_findDelim post (g_ol, nI l, g_newOl, g_newCl, g_tagName, g_parseErr, g_openCount, g_nVals, g_outLen, g_outCap, g_fn, g_cn, b_text, b_len, b_stat, b_errPos, b_removed, b_tType, b_tA, b_tB, b_tName, b_tMatch, b_tCount, b_oc, b_cc, b_newO, b_newC, b_openName, b_openTok, b_vKind, b_vNum, b_vCnt, b_vStr, b_vItem, b_vKey, b_vVal, b_out, b_fv, b_cKind, b_cSlot, b_cTok, b_cVal, b_cIdx, b_dig) (nI s) y 1 := by
  subst hf hy
  exact yl_find1 hs hT hL hl hn hx hO h
/-- the literal ahead of q -/
theorem ya_L (hs : s < 4) (hn : n ≤ 96) (hpq : p ≤ q) (hq : q ≤ n) (hC : b_tCount s = nI m) (hI : cp_I s n p ol cl m ps tp st T K N E G oM cM oT b_removed b_tType b_tA b_tB b_tName b_tMatch b_oc b_cc b_openName b_openTok) :
    ∃ (m' : Nat) (ps' tp' : Nat → Nat) (st' : Nat → List Nat) (b_tType' b_tA' b_tB' b_tName' b_tMatch' b_tCount' : Nat → Int32), b_tCount' s = nI m' ∧ (st' m').length = (st m).length ∧ fr_Y s b_removed b_tType b_tA b_tB b_tName b_tMatch b_tCount b_removed b_tType' b_tA' b_tB' b_tName' b_tMatch' b_tCount' ∧
    cp_I s n q ol cl m' ps' tp' st' T K N E G oM cM oT b_removed b_tType' b_tA' b_tB' b_tName' b_tMatch' b_oc b_cc b_openName b_openTok ∧
    ∀ post : SY → Prop, post (g_ol, g_cl, g_newOl, g_newCl, g_tagName, g_parseErr, g_openCount, g_nVals, g_outLen, g_outCap, g_fn, g_cn, b_text, b_len, b_stat, b_errPos, b_removed, b_tType', b_tA', b_tB', b_tName', b_tMatch', b_tCount', b_oc, b_cc, b_newO, b_newC, b_openName, b_openTok, b_vKind, b_vNum, b_vCnt, b_vStr, b_vItem, b_vKey, b_vVal, b_out, b_fv, b_cKind, b_cSlot, b_cTok, b_cVal, b_cIdx, b_dig) → wpY_addTok post (g_ol, g_cl, g_newOl, g_newCl, g_tagName, g_parseErr, g_openCount, g_nVals, g_outLen, g_outCap, g_fn, g_cn, b_text, b_len, b_stat, b_errPos, b_removed, b_tType, b_tA, b_tB, b_tName, b_tMatch, b_tCount, b_oc, b_cc, b_newO, b_newC, b_openName, b_openTok, b_vKind, b_vNum, b_vCnt, b_vStr, b_vItem, b_vKey, b_vVal, b_out, b_fv, b_cKind, b_cSlot, b_cTok, b_cVal, b_cIdx, b_dig) (nI s) 1 (nI p) (nI q) 0 := by
  have hm := tk_mp hI.1
  by_cases z : p < q
  · refine ⟨m + 1, _, _, _, _, _, _, _, _, _, pk_us, ?_, fr_tok (by omega) (fun _ _ => rfl), cp_lit hI z hq 0 0, fun post h => ya_lit hs (by omega) z (by omega) hC h⟩
    rw [fu_s]
  · have e0 : p = q := by omega
    subst e0
    exact ⟨m, ps, tp, st, b_tType, b_tA, b_tB, b_tName, b_tMatch, b_tCount, hC, rfl, fr_rf, hI, fun post h => ya_non (by omega) (by omega) h⟩
/-- the token of the tag, and the line -/
theorem ya_475 {k : Nat} {x9 : Int32} (hs : s < 4) (hT : ∀ i, i < 96 → b_text (s * 96 + i) = T i) (hL : b_len s = nI n) (hn : n ≤ 96) (hq : q < e) (he : e ≤ n) (hm : m < 100) (hk : 2 ≤ k) (hk9 : k ≤ 9) (hC : b_tCount s = nI m) :
    ∃ R' : Nat → Int32, (∀ c, c < n → ((k ≠ 2 ∧ k ≠ 3 ∧ rm_P T n q e c) → R' (s * 96 + c) = 1) ∧ (¬ (k ≠ 2 ∧ k ≠ 3 ∧ rm_P T n q e c) → R' (s * 96 + c) = b_removed (s * 96 + c))) ∧ (∀ j, j < s * 96 ∨ s * 96 + 96 ≤ j → R' j = b_removed j) ∧
    ∀ (post : Int32 → SY → Prop) (F : Nat), wY_parse_97 post (nI s) (nI n) F (nI e) (nI (sp + 1)) g_ol g_cl g_newOl g_newCl g_tagName g_parseErr g_openCount g_nVals g_outLen g_outCap g_fn g_cn b_text b_len b_stat b_errPos R' (upd b_tType (s * 100 + m) (nI (ll_ty k))) (upd b_tA (s * 100 + m) (nI q)) (upd b_tB (s * 100 + m) (nI e)) (upd b_tName (s * 100 + m) x9) (upd b_tMatch (s * 100 + m) 0) (upd b_tCount s (nI (m + 1))) b_oc b_cc b_newO b_newC b_openName b_openTok b_vKind b_vNum b_vCnt b_vStr b_vItem b_vKey b_vVal b_out b_fv b_cKind b_cSlot b_cTok b_cVal b_cIdx b_dig → wY_parse_475 post (wY_parse_97 post (nI s) (nI n) F) (nI s) (nI n) (nI sp) (nI q) (nI e) (nI (ll_ty k)) x9 g_ol g_cl g_newOl g_newCl g_tagName g_parseErr g_openCount g_nVals g_outLen g_outCap g_fn g_cn b_text b_len b_stat b_errPos b_removed b_tType b_tA b_tB b_tName b_tMatch b_tCount b_oc b_cc b_newO b_newC b_openName b_openTok b_vKind b_vNum b_vCnt b_vStr b_vItem b_vKey b_vVal b_out b_fv b_cKind b_cSlot b_cTok b_cVal b_cIdx b_dig := by
  have kt := tk_kty k hk9 hk
  have v4 : nI (ll_ty k) = 4 ↔ k = 2 := by
    have d : ∀ k, k ≤ 9 → 2 ≤ k → (nI (ll_ty k) = 4 ↔ k = 2) := by decide
    exact d k hk9 hk
  have v5 : nI (ll_ty k) = 5 ↔ k = 3 := by
    have d : ∀ k, k ≤ 9 → 2 ≤ k → (nI (ll_ty k) = 5 ↔ k = 3) := by decide
    exact d k hk9 hk
  by_cases z : k = 2 ∨ k = 3
  · refine ⟨b_removed, fun c hc => ⟨fun y => by omega, fun _ => rfl⟩, fun _ _ => rfl, fun post F h => ?_⟩
    unfold wY_parse_475
    refine ya_tag hs hm kt.2.1 kt.2.2 hC ?_
    rcases z with z | z
    · exact br_t (v4.mpr z) (nm_r (nI_1 _) h)
    · exact br_f (fun y => by have := v4.mp y; omega) (br_t (v5.mpr z) (nm_r (nI_1 _) h))
  · obtain ⟨R', r1, r2, r3⟩ := ym_E (g_ol := g_ol) (g_cl := g_cl) (g_newOl := g_newOl) (g_newCl := g_newCl) (g_tagName := g_tagName) (g_parseErr := g_parseErr) (g_openCount := g_openCount) (g_nVals := g_nVals) (g_outLen := g_outLen) (g_outCap := g_outCap) (g_fn := g_fn) (g_cn := g_cn) (b_text := b_text) (b_len := b_len) (b_stat := b_stat) (b_errPos := b_errPos) (b_removed := b_removed) (b_tType := upd b_tType (s * 100 + m) (nI (ll_ty k))) (b_tA := upd b_tA (s * 100 + m) (nI q)) (b_tB := upd b_tB (s * 100 + m) (nI e)) (b_tName := upd b_tName (s * 100 + m) x9) (b_tMatch := upd b_tMatch (s * 100 + m) 0) (b_tCount := upd b_tCount s (nI (m + 1))) (b_oc := b_oc) (b_cc := b_cc) (b_newO := b_newO) (b_newC := b_newC) (b_openName := b_openName) (b_openTok := b_openTok) (b_vKind := b_vKind) (b_vNum := b_vNum) (b_vCnt := b_vCnt) (b_vStr := b_vStr) (b_vItem := b_vItem) (b_vKey := b_vKey) (b_vVal := b_vVal) (b_out := b_out) (b_fv := b_fv) (b_cKind := b_cKind) (b_cSlot := b_cSlot) (b_cTok := b_cTok) (b_cVal := b_cVal) (b_cIdx := b_cIdx) (b_dig := b_dig) hs hT hL hn hq he
    refine ⟨R', fun c hc => ⟨fun y => (r1 c hc).1 y.2.2, fun y => (r1 c hc).2 (fun w => y ⟨by omega, by omega, w⟩)⟩, r2, fun post F h => ?_⟩
    unfold wY_parse_475
    refine ya_tag hs hm kt.2.1 kt.2.2 hC ?_
    exact br_f (fun y => by have := v4.mp y; omega) (br_f (fun y => by have := v5.mp y; omega) (r3 _ (nm_r (nI_1 _) h)))
end TXT
end LLYS
end
section
section LLYZ
variable {g_ol g_cl g_newOl g_newCl g_tagName g_parseErr g_openCount g_nVals g_outLen g_outCap g_fn g_cn : Int32} {b_text b_len b_stat b_errPos b_removed b_tType b_tA b_tB b_tName b_tMatch b_tCount b_oc b_cc b_newO b_newC b_openName b_openTok b_vKind b_vNum b_vCnt b_vStr b_vItem b_vKey b_vVal b_out b_fv b_cKind b_cSlot b_cTok b_cVal b_cIdx b_dig : Nat → Int32}
variable {s n p q r m ol cl sp L : Nat} {ps tp : Nat → Nat} {st : Nat → List Nat} {T K N E G oM cM oT : Nat → Int32}

theorem yz_endT (hs : s < 4) (hT : ∀ i, i < 96 → b_text (s * 96 + i) = T i) (hR : ∀ i, i < 96 → T i ≤ 126) (hL : b_len s = nI n) (hn : n ≤ 96) (hp : p ≤ n) (ho1 : 1 ≤ ol) (ho3 : ol ≤ 3) (hc1 : 1 ≤ cl) (hc3 : cl ≤ 3) (hsp : sp ≤ p) (hC : b_tCount s = nI m) (hI : cp_I s n p ol cl m ps tp st T K N E G oM cM oT b_removed b_tType b_tA b_tB b_tName b_tMatch b_oc b_cc b_openName b_openTok) (hLn : (st m).length = L) (hL0 : L = 0) (hf : ll_fd T oM ol n (n + 1 - p) p = none) : ∃ (g_ol' g_cl' g_newOl' g_newCl' g_tagName' g_parseErr' g_openCount' : Int32) (b_removed' b_tType' b_tA' b_tB' b_tName' b_tMatch' b_tCount' b_oc' b_cc' b_newO' b_newC' b_openName' b_openTok' : Nat → Int32), fr_Y s b_removed b_tType b_tA b_tB b_tName b_tMatch b_tCount b_removed' b_tType' b_tA' b_tB' b_tName' b_tMatch' b_tCount' ∧ g_parseErr' = g_parseErr ∧ (∃ (m' : Nat) (ps' tp' : Nat → Nat) (st' : Nat → List Nat), b_tCount' s = nI m' ∧ tk_F s n T K N E G b_removed' b_tType' b_tA' b_tB' b_tName' b_tMatch' m' ps' tp' st') ∧ ∀ (post : Int32 → SY → Prop) (F : Nat), post (0) (g_ol', g_cl', g_newOl', g_newCl', g_tagName', g_parseErr', g_openCount', g_nVals, g_outLen, g_outCap, g_fn, g_cn, b_text, b_len, b_stat, b_errPos, b_removed', b_tType', b_tA', b_tB', b_tName', b_tMatch', b_tCount', b_oc', b_cc', b_newO', b_newC', b_openName', b_openTok', b_vKind, b_vNum, b_vCnt, b_vStr, b_vItem, b_vKey, b_vVal, b_out, b_fv, b_cKind, b_cSlot, b_cTok, b_cVal, b_cIdx, b_dig) → wY_parse_97 post (nI s) (nI n) (F + 1) (nI p) (nI sp) (nI ol) (nI cl) g_newOl g_newCl g_tagName g_parseErr (nI L) g_nVals g_outLen g_outCap g_fn g_cn b_text b_len b_stat b_errPos b_removed b_tType b_tA b_tB b_tName b_tMatch b_tCount b_oc b_cc b_newO b_newC b_openName b_openTok b_vKind b_vNum b_vCnt b_vStr b_vItem b_vKey b_vVal b_out b_fv b_cKind b_cSlot b_cTok b_cVal b_cIdx b_dig := by
  have hl2 := cp_len hI
  obtain ⟨m1, ps1, tp1, st1, ty1, tA1, tB1, tN1, tM1, tC1, c1, c2, c3, c4, c5⟩ := ya_L (g_ol := nI ol) (g_cl := nI cl) (g_newOl := g_newOl) (g_newCl := g_newCl) (g_tagName := g_tagName) (g_parseErr := g_parseErr) (g_openCount := nI L) (g_nVals := g_nVals) (g_outLen := g_outLen) (g_outCap := g_outCap) (g_fn := g_fn) (g_cn := g_cn) (b_text := b_text) (b_len := b_len) (b_stat := b_stat) (b_errPos := b_errPos) (b_removed := b_removed) (b_tType := b_tType) (b_tA := b_tA) (b_tB := b_tB) (b_tName := b_tName) (b_tMatch := b_tMatch) (b_tCount := b_tCount) (b_oc := b_oc) (b_cc := b_cc) (b_newO := b_newO) (b_newC := b_newC) (b_openName := b_openName) (b_openTok := b_openTok) (b_vKind := b_vKind) (b_vNum := b_vNum) (b_vCnt := b_vCnt) (b_vStr := b_vStr) (b_vItem := b_vItem) (b_vKey := b_vKey) (b_vVal := b_vVal) (b_out := b_out) (b_fv := b_fv) (b_cKind := b_cKind) (b_cSlot := b_cSlot) (b_cTok := b_cTok) (b_cVal := b_cVal) (b_cIdx := b_cIdx) (b_dig := b_dig) hs hn hp (Nat.le_refl n) hC hI
  refine ⟨nI ol, nI cl, g_newOl, g_newCl, g_tagName, g_parseErr, nI L, b_removed, ty1, tA1, tB1, tN1, tM1, tC1, b_oc, b_cc, b_newO, b_newC, b_openName, b_openTok, c3, rfl, ⟨m1, ps1, tp1, st1, c1, c4.1, c4.2.1, c4.2.2.1, List.length_eq_zero_iff.mp (by omega), c4.2.2.2.2.2.2⟩, fun post F h => ?_⟩
  exact br_f (nI_nlt (a := 97) (by omega) (by decide)) (yl_findE0 (O := oM) hs hT hL ho3 hn hp hI.2.2.2.2.1 hf (br_f (show ¬ (0 : Int32) ≤ -1 from by decide) (c5 _ (br_t (by rw [hL0]; decide) h))))

theorem yz_endF (hs : s < 4) (hT : ∀ i, i < 96 → b_text (s * 96 + i) = T i) (hR : ∀ i, i < 96 → T i ≤ 126) (hL : b_len s = nI n) (hn : n ≤ 96) (hp : p ≤ n) (ho1 : 1 ≤ ol) (ho3 : ol ≤ 3) (hc1 : 1 ≤ cl) (hc3 : cl ≤ 3) (hsp : sp ≤ p) (hC : b_tCount s = nI m) (hI : cp_I s n p ol cl m ps tp st T K N E G oM cM oT b_removed b_tType b_tA b_tB b_tName b_tMatch b_oc b_cc b_openName b_openTok) (hLn : (st m).length = L) (hL0 : 0 < L) (hf : ll_fd T oM ol n (n + 1 - p) p = none) : ∃ (g_ol' g_cl' g_newOl' g_newCl' g_tagName' g_parseErr' g_openCount' : Int32) (b_removed' b_tType' b_tA' b_tB' b_tName' b_tMatch' b_tCount' b_oc' b_cc' b_newO' b_newC' b_openName' b_openTok' : Nat → Int32), fr_Y s b_removed b_tType b_tA b_tB b_tName b_tMatch b_tCount b_removed' b_tType' b_tA' b_tB' b_tName' b_tMatch' b_tCount' ∧ g_parseErr' = nI n ∧ ∀ (post : Int32 → SY → Prop) (F : Nat), post (-5) (g_ol', g_cl', g_newOl', g_newCl', g_tagName', g_parseErr', g_openCount', g_nVals, g_outLen, g_outCap, g_fn, g_cn, b_text, b_len, b_stat, b_errPos, b_removed', b_tType', b_tA', b_tB', b_tName', b_tMatch', b_tCount', b_oc', b_cc', b_newO', b_newC', b_openName', b_openTok', b_vKind, b_vNum, b_vCnt, b_vStr, b_vItem, b_vKey, b_vVal, b_out, b_fv, b_cKind, b_cSlot, b_cTok, b_cVal, b_cIdx, b_dig) → wY_parse_97 post (nI s) (nI n) (F + 1) (nI p) (nI sp) (nI ol) (nI cl) g_newOl g_newCl g_tagName g_parseErr (nI L) g_nVals g_outLen g_outCap g_fn g_cn b_text b_len b_stat b_errPos b_removed b_tType b_tA b_tB b_tName b_tMatch b_tCount b_oc b_cc b_newO b_newC b_openName b_openTok b_vKind b_vNum b_vCnt b_vStr b_vItem b_vKey b_vVal b_out b_fv b_cKind b_cSlot b_cTok b_cVal b_cIdx b_dig := by
  have hl2 := cp_len hI
  obtain ⟨m1, ps1, tp1, st1, ty1, tA1, tB1, tN1, tM1, tC1, c1, c2, c3, c4, c5⟩ := ya_L (g_ol := nI ol) (g_cl := nI cl) (g_newOl := g_newOl) (g_newCl := g_newCl) (g_tagName := g_tagName) (g_parseErr := g_parseErr) (g_openCount := nI L) (g_nVals := g_nVals) (g_outLen := g_outLen) (g_outCap := g_outCap) (g_fn := g_fn) (g_cn := g_cn) (b_text := b_text) (b_len := b_len) (b_stat := b_stat) (b_errPos := b_errPos) (b_removed := b_removed) (b_tType := b_tType) (b_tA := b_tA) (b_tB := b_tB) (b_tName := b_tName) (b_tMatch := b_tMatch) (b_tCount := b_tCount) (b_oc := b_oc) (b_cc := b_cc) (b_newO := b_newO) (b_newC := b_newC) (b_openName := b_openName) (b_openTok := b_openTok) (b_vKind := b_vKind) (b_vNum := b_vNum) (b_vCnt := b_vCnt) (b_vStr := b_vStr) (b_vItem := b_vItem) (b_vKey := b_vKey) (b_vVal := b_vVal) (b_out := b_out) (b_fv := b_fv) (b_cKind := b_cKind) (b_cSlot := b_cSlot) (b_cTok := b_cTok) (b_cVal := b_cVal) (b_cIdx := b_cIdx) (b_dig := b_dig) hs hn hp (Nat.le_refl n) hC hI
  refine ⟨nI ol, nI cl, g_newOl, g_newCl, g_tagName, nI n, nI L, b_removed, ty1, tA1, tB1, tN1, tM1, tC1, b_oc, b_cc, b_newO, b_newC, b_openName, b_openTok, c3, rfl, fun post F h => ?_⟩
  exact br_f (nI_nlt (a := 97) (by omega) (by decide)) (yl_findE0 (O := oM) hs hT hL ho3 hn hp hI.2.2.2.2.1 hf (br_f (show ¬ (0 : Int32) ≤ -1 from by decide) (c5 _ (br_f (nI_nle hL0 (by omega)) h))))

theorem yz_A (hs : s < 4) (hT : ∀ i, i < 96 → b_text (s * 96 + i) = T i) (hR : ∀ i, i < 96 → T i ≤ 126) (hL : b_len s = nI n) (hn : n ≤ 96) (hp : p ≤ n) (ho1 : 1 ≤ ol) (ho3 : ol ≤ 3) (hc1 : 1 ≤ cl) (hc3 : cl ≤ 3) (hsp : sp ≤ p) (hC : b_tCount s = nI m) (hI : cp_I s n p ol cl m ps tp st T K N E G oM cM oT b_removed b_tType b_tA b_tB b_tName b_tMatch b_oc b_cc b_openName b_openTok) (hLn : (st m).length = L) (hf : ll_fd T oM ol n (n + 1 - p) p = some q) (hf2 : ll_fd T cM cl n (n + 1 - (q + ol)) (q + ol) = none) : ∃ (g_ol' g_cl' g_newOl' g_newCl' g_tagName' g_parseErr' g_openCount' : Int32) (b_removed' b_tType' b_tA' b_tB' b_tName' b_tMatch' b_tCount' b_oc' b_cc' b_newO' b_newC' b_openName' b_openTok' : Nat → Int32), fr_Y s b_removed b_tType b_tA b_tB b_tName b_tMatch b_tCount b_removed' b_tType' b_tA' b_tB' b_tName' b_tMatch' b_tCount' ∧ g_parseErr' = nI q ∧ ∀ (post : Int32 → SY → Prop) (F : Nat), post (-3) (g_ol', g_cl', g_newOl', g_newCl', g_tagName', g_parseErr', g_openCount', g_nVals, g_outLen, g_outCap, g_fn, g_cn, b_text, b_len, b_stat, b_errPos, b_removed', b_tType', b_tA', b_tB', b_tName', b_tMatch', b_tCount', b_oc', b_cc', b_newO', b_newC', b_openName', b_openTok', b_vKind, b_vNum, b_vCnt, b_vStr, b_vItem, b_vKey, b_vVal, b_out, b_fv, b_cKind, b_cSlot, b_cTok, b_cVal, b_cIdx, b_dig) → wY_parse_97 post (nI s) (nI n) (F + 1) (nI p) (nI sp) (nI ol) (nI cl) g_newOl g_newCl g_tagName g_parseErr (nI L) g_nVals g_outLen g_outCap g_fn g_cn b_text b_len b_stat b_errPos b_removed b_tType b_tA b_tB b_tName b_tMatch b_tCount b_oc b_cc b_newO b_newC b_openName b_openTok b_vKind b_vNum b_vCnt b_vStr b_vItem b_vKey b_vVal b_out b_fv b_cKind b_cSlot b_cTok b_cVal b_cIdx b_dig := by
  obtain ⟨f1, f2, f3⟩ := ll_fd_s _ _ _ hf
  obtain ⟨m1, ps1, tp1, st1, ty1, tA1, tB1, tN1, tM1, tC1, c1, c2, c3, c4, c5⟩ := ya_L (g_ol := nI ol) (g_cl := nI cl) (g_newOl := g_newOl) (g_newCl := g_newCl) (g_tagName := g_tagName) (g_parseErr := g_parseErr) (g_openCount := nI L) (g_nVals := g_nVals) (g_outLen := g_outLen) (g_outCap := g_outCap) (g_fn := g_fn) (g_cn := g_cn) (b_text := b_text) (b_len := b_len) (b_stat := b_stat) (b_errPos := b_errPos) (b_removed := b_removed) (b_tType := b_tType) (b_tA := b_tA) (b_tB := b_tB) (b_tName := b_tName) (b_tMatch := b_tMatch) (b_tCount := b_tCount) (b_oc := b_oc) (b_cc := b_cc) (b_newO := b_newO) (b_newC := b_newC) (b_openName := b_openName) (b_openTok := b_openTok) (b_vKind := b_vKind) (b_vNum := b_vNum) (b_vCnt := b_vCnt) (b_vStr := b_vStr) (b_vItem := b_vItem) (b_vKey := b_vKey) (b_vVal := b_vVal) (b_out := b_out) (b_fv := b_fv) (b_cKind := b_cKind) (b_cSlot := b_cSlot) (b_cTok := b_cTok) (b_cVal := b_cVal) (b_cIdx := b_cIdx) (b_dig := b_dig) hs hn f1 (by omega : q ≤ n) hC hI
  have hm1 := tk_mp c4.1
  refine ⟨nI ol, nI cl, g_newOl, g_newCl, g_tagName, nI q, nI L, b_removed, ty1, tA1, tB1, tN1, tM1, tC1, b_oc, b_cc, b_newO, b_newC, b_openName, b_openTok, ?_, rfl, fun post F h => ?_⟩
  · exact c3
  · exact br_f (nI_nlt (a := 97) (by omega) (by decide)) (yl_findE0 (O := oM) hs hT hL ho3 hn hp hI.2.2.2.2.1 hf (br_t (nI_pos' (by omega)) (c5 _ (yl_findE1 (x := q + ol) (O := cM) hs hT hL hc3 hn (by omega) hI.2.2.2.2.2.1 hf2 (nI_add q ol) (br_f (show ¬ (0 : Int32) ≤ -1 from by decide) h)))))

theorem yz_B (hs : s < 4) (hT : ∀ i, i < 96 → b_text (s * 96 + i) = T i) (hR : ∀ i, i < 96 → T i ≤ 126) (hL : b_len s = nI n) (hn : n ≤ 96) (hp : p ≤ n) (ho1 : 1 ≤ ol) (ho3 : ol ≤ 3) (hc1 : 1 ≤ cl) (hc3 : cl ≤ 3) (hsp : sp ≤ p) (hC : b_tCount s = nI m) (hI : cp_I s n p ol cl m ps tp st T K N E G oM cM oT b_removed b_tType b_tA b_tB b_tName b_tMatch b_oc b_cc b_openName b_openTok) (hLn : (st m).length = L) (hf : ll_fd T oM ol n (n + 1 - p) p = some q) (hf2 : ll_fd T cM cl n (n + 1 - (q + ol)) (q + ol) = some r) (hok : ¬ ll_ok T (q + ol) r) : ∃ (g_ol' g_cl' g_newOl' g_newCl' g_tagName' g_parseErr' g_openCount' : Int32) (b_removed' b_tType' b_tA' b_tB' b_tName' b_tMatch' b_tCount' b_oc' b_cc' b_newO' b_newC' b_openName' b_openTok' : Nat → Int32), fr_Y s b_removed b_tType b_tA b_tB b_tName b_tMatch b_tCount b_removed' b_tType' b_tA' b_tB' b_tName' b_tMatch' b_tCount' ∧ g_parseErr' = nI q ∧ ∀ (post : Int32 → SY → Prop) (F : Nat), post (-4) (g_ol', g_cl', g_newOl', g_newCl', g_tagName', g_parseErr', g_openCount', g_nVals, g_outLen, g_outCap, g_fn, g_cn, b_text, b_len, b_stat, b_errPos, b_removed', b_tType', b_tA', b_tB', b_tName', b_tMatch', b_tCount', b_oc', b_cc', b_newO', b_newC', b_openName', b_openTok', b_vKind, b_vNum, b_vCnt, b_vStr, b_vItem, b_vKey, b_vVal, b_out, b_fv, b_cKind, b_cSlot, b_cTok, b_cVal, b_cIdx, b_dig) → wY_parse_97 post (nI s) (nI n) (F + 1) (nI p) (nI sp) (nI ol) (nI cl) g_newOl g_newCl g_tagName g_parseErr (nI L) g_nVals g_outLen g_outCap g_fn g_cn b_text b_len b_stat b_errPos b_removed b_tType b_tA b_tB b_tName b_tMatch b_tCount b_oc b_cc b_newO b_newC b_openName b_openTok b_vKind b_vNum b_vCnt b_vStr b_vItem b_vKey b_vVal b_out b_fv b_cKind b_cSlot b_cTok b_cVal b_cIdx b_dig := by
  obtain ⟨f1, f2, f3⟩ := ll_fd_s _ _ _ hf
  obtain ⟨m1, ps1, tp1, st1, ty1, tA1, tB1, tN1, tM1, tC1, c1, c2, c3, c4, c5⟩ := ya_L (g_ol := nI ol) (g_cl := nI cl) (g_newOl := g_newOl) (g_newCl := g_newCl) (g_tagName := g_tagName) (g_parseErr := g_parseErr) (g_openCount := nI L) (g_nVals := g_nVals) (g_outLen := g_outLen) (g_outCap := g_outCap) (g_fn := g_fn) (g_cn := g_cn) (b_text := b_text) (b_len := b_len) (b_stat := b_stat) (b_errPos := b_errPos) (b_removed := b_removed) (b_tType := b_tType) (b_tA := b_tA) (b_tB := b_tB) (b_tName := b_tName) (b_tMatch := b_tMatch) (b_tCount := b_tCount) (b_oc := b_oc) (b_cc := b_cc) (b_newO := b_newO) (b_newC := b_newC) (b_openName := b_openName) (b_openTok := b_openTok) (b_vKind := b_vKind) (b_vNum := b_vNum) (b_vCnt := b_vCnt) (b_vStr := b_vStr) (b_vItem := b_vItem) (b_vKey := b_vKey) (b_vVal := b_vVal) (b_out := b_out) (b_fv := b_fv) (b_cKind := b_cKind) (b_cSlot := b_cSlot) (b_cTok := b_cTok) (b_cVal := b_cVal) (b_cIdx := b_cIdx) (b_dig := b_dig) hs hn f1 (by omega : q ≤ n) hC hI
  have hm1 := tk_mp c4.1
  obtain ⟨f4, f5, f6⟩ := ll_fd_s _ _ _ hf2
  obtain ⟨o', c', hcl⟩ := yc_F (g_ol := nI ol) (g_cl := nI cl) (g_newOl := g_newOl) (g_newCl := g_newCl) (g_tagName := g_tagName) (g_parseErr := g_parseErr) (g_openCount := nI L) (g_nVals := g_nVals) (g_outLen := g_outLen) (g_outCap := g_outCap) (g_fn := g_fn) (g_cn := g_cn) (b_text := b_text) (b_len := b_len) (b_stat := b_stat) (b_errPos := b_errPos) (b_removed := b_removed) (b_tType := ty1) (b_tA := tA1) (b_tB := tB1) (b_tName := tN1) (b_tMatch := tM1) (b_tCount := tC1) (b_oc := b_oc) (b_cc := b_cc) (b_newO := b_newO) (b_newC := b_newC) (b_openName := b_openName) (b_openTok := b_openTok) (b_vKind := b_vKind) (b_vNum := b_vNum) (b_vCnt := b_vCnt) (b_vStr := b_vStr) (b_vItem := b_vItem) (b_vKey := b_vKey) (b_vVal := b_vVal) (b_out := b_out) (b_fv := b_fv) (b_cKind := b_cKind) (b_cSlot := b_cSlot) (b_cTok := b_cTok) (b_cVal := b_cVal) (b_cIdx := b_cIdx) (b_dig := b_dig) (a := q + ol) (b := r) hs hT hR (by omega) f4 hok
  rw [← nI_add q ol] at hcl
  refine ⟨nI ol, nI cl, g_newOl, g_newCl, g_tagName, nI q, nI L, b_removed, ty1, tA1, tB1, tN1, tM1, tC1, b_oc, b_cc, o', c', b_openName, b_openTok, ?_, rfl, fun post F h => ?_⟩
  · exact c3
  · exact br_f (nI_nlt (a := 97) (by omega) (by decide)) (yl_findE0 (O := oM) hs hT hL ho3 hn hp hI.2.2.2.2.1 hf (br_t (nI_pos' (by omega)) (c5 _ (yl_findE1 (x := q + ol) (O := cM) hs hT hL hc3 hn (by omega) hI.2.2.2.2.2.1 hf2 (nI_add q ol) (br_t (nI_pos' (by omega)) (nm_r (nI_add r cl) (hcl _ (br_f (show ¬ (0 : Int32) ≤ -1 from by decide) h))))))))

theorem yz_begF (hs : s < 4) (hT : ∀ i, i < 96 → b_text (s * 96 + i) = T i) (hR : ∀ i, i < 96 → T i ≤ 126) (hL : b_len s = nI n) (hn : n ≤ 96) (hp : p ≤ n) (ho1 : 1 ≤ ol) (ho3 : ol ≤ 3) (hc1 : 1 ≤ cl) (hc3 : cl ≤ 3) (hsp : sp ≤ p) (hC : b_tCount s = nI m) (hI : cp_I s n p ol cl m ps tp st T K N E G oM cM oT b_removed b_tType b_tA b_tB b_tName b_tMatch b_oc b_cc b_openName b_openTok) (hLn : (st m).length = L) (hf : ll_fd T oM ol n (n + 1 - p) p = some q) (hf2 : ll_fd T cM cl n (n + 1 - (q + ol)) (q + ol) = some r) (hok : ll_ok T (q + ol) r) {k : Nat} (hk : ll_kd T (q + ol) r = k) (hk6 : k = 6 ∨ k = 7) (hL2 : 2 ≤ L) : ∃ (g_ol' g_cl' g_newOl' g_newCl' g_tagName' g_parseErr' g_openCount' : Int32) (b_removed' b_tType' b_tA' b_tB' b_tName' b_tMatch' b_tCount' b_oc' b_cc' b_newO' b_newC' b_openName' b_openTok' : Nat → Int32), fr_Y s b_removed b_tType b_tA b_tB b_tName b_tMatch b_tCount b_removed' b_tType' b_tA' b_tB' b_tName' b_tMatch' b_tCount' ∧ g_parseErr' = nI q ∧ ∀ (post : Int32 → SY → Prop) (F : Nat), post (-5) (g_ol', g_cl', g_newOl', g_newCl', g_tagName', g_parseErr', g_openCount', g_nVals, g_outLen, g_outCap, g_fn, g_cn, b_text, b_len, b_stat, b_errPos, b_removed', b_tType', b_tA', b_tB', b_tName', b_tMatch', b_tCount', b_oc', b_cc', b_newO', b_newC', b_openName', b_openTok', b_vKind, b_vNum, b_vCnt, b_vStr, b_vItem, b_vKey, b_vVal, b_out, b_fv, b_cKind, b_cSlot, b_cTok, b_cVal, b_cIdx, b_dig) → wY_parse_97 post (nI s) (nI n) (F + 1) (nI p) (nI sp) (nI ol) (nI cl) g_newOl g_newCl g_tagName g_parseErr (nI L) g_nVals g_outLen g_outCap g_fn g_cn b_text b_len b_stat b_errPos b_removed b_tType b_tA b_tB b_tName b_tMatch b_tCount b_oc b_cc b_newO b_newC b_openName b_openTok b_vKind b_vNum b_vCnt b_vStr b_vItem b_vKey b_vVal b_out b_fv b_cKind b_cSlot b_cTok b_cVal b_cIdx b_dig := by
  obtain ⟨f1, f2, f3⟩ := ll_fd_s _ _ _ hf
  obtain ⟨m1, ps1, tp1, st1, ty1, tA1, tB1, tN1, tM1, tC1, c1, c2, c3, c4, c5⟩ := ya_L (g_ol := nI ol) (g_cl := nI cl) (g_newOl := g_newOl) (g_newCl := g_newCl) (g_tagName := g_tagName) (g_parseErr := g_parseErr) (g_openCount := nI L) (g_nVals := g_nVals) (g_outLen := g_outLen) (g_outCap := g_outCap) (g_fn := g_fn) (g_cn := g_cn) (b_text := b_text) (b_len := b_len) (b_stat := b_stat) (b_errPos := b_errPos) (b_removed := b_removed) (b_tType := b_tType) (b_tA := b_tA) (b_tB := b_tB) (b_tName := b_tName) (b_tMatch := b_tMatch) (b_tCount := b_tCount) (b_oc := b_oc) (b_cc := b_cc) (b_newO := b_newO) (b_newC := b_newC) (b_openName := b_openName) (b_openTok := b_openTok) (b_vKind := b_vKind) (b_vNum := b_vNum) (b_vCnt := b_vCnt) (b_vStr := b_vStr) (b_vItem := b_vItem) (b_vKey := b_vKey) (b_vVal := b_vVal) (b_out := b_out) (b_fv := b_fv) (b_cKind := b_cKind) (b_cSlot := b_cSlot) (b_cTok := b_cTok) (b_cVal := b_cVal) (b_cIdx := b_cIdx) (b_dig := b_dig) hs hn f1 (by omega : q ≤ n) hC hI
  have hm1 := tk_mp c4.1
  obtain ⟨f4, f5, f6⟩ := ll_fd_s _ _ _ hf2
  have kb := ll_kd_b T (q + ol) r
  obtain ⟨o', c', l1, l2, tn, hm5, htn, hcl⟩ := yc_T (g_ol := nI ol) (g_cl := nI cl) (g_newOl := g_newOl) (g_newCl := g_newCl) (g_tagName := g_tagName) (g_parseErr := g_parseErr) (g_openCount := nI L) (g_nVals := g_nVals) (g_outLen := g_outLen) (g_outCap := g_outCap) (g_fn := g_fn) (g_cn := g_cn) (b_text := b_text) (b_len := b_len) (b_stat := b_stat) (b_errPos := b_errPos) (b_removed := b_removed) (b_tType := ty1) (b_tA := tA1) (b_tB := tB1) (b_tName := tN1) (b_tMatch := tM1) (b_tCount := tC1) (b_oc := b_oc) (b_cc := b_cc) (b_newO := b_newO) (b_newC := b_newC) (b_openName := b_openName) (b_openTok := b_openTok) (b_vKind := b_vKind) (b_vNum := b_vNum) (b_vCnt := b_vCnt) (b_vStr := b_vStr) (b_vItem := b_vItem) (b_vKey := b_vKey) (b_vVal := b_vVal) (b_out := b_out) (b_fv := b_fv) (b_cKind := b_cKind) (b_cSlot := b_cSlot) (b_cTok := b_cTok) (b_cVal := b_cVal) (b_cIdx := b_cIdx) (b_dig := b_dig) (a := q + ol) (b := r) hs hT hR (by omega) f4 hok
  rw [← nI_add q ol] at hcl
  have ety : ll_ty (ll_kd T (q + ol) r) = k := by rw [hk]; unfold ll_ty; rw [if_neg (by omega), if_neg (by omega), if_neg (by omega), if_neg (by omega)]
  rw [ety] at hcl
  refine ⟨nI ol, nI cl, l1, l2, tn, nI q, nI L, b_removed, ty1, tA1, tB1, tN1, tM1, tC1, b_oc, b_cc, o', c', b_openName, b_openTok, ?_, rfl, fun post F h => ?_⟩
  · exact c3
  · exact br_f (nI_nlt (a := 97) (by omega) (by decide)) (yl_findE0 (O := oM) hs hT hL ho3 hn hp hI.2.2.2.2.1 hf (br_t (nI_pos' (by omega)) (c5 _ (yl_findE1 (x := q + ol) (O := cM) hs hT hL hc3 hn (by omega) hI.2.2.2.2.2.1 hf2 (nI_add q ol) (br_t (nI_pos' (by omega)) (nm_r (nI_add r cl) (hcl _ (br_t (nI_pos' (by omega)) (pk_eq k 6 (fun _ => br_f (nI_nlt (b := 2) hL2 (by have := cp_len hI; omega)) h) (fun z => br_t (by rw [show k = 7 from by omega]; rfl) (br_f (nI_nlt (b := 2) hL2 (by have := cp_len hI; omega)) h)))))))))))

theorem yz_endF0 (hs : s < 4) (hT : ∀ i, i < 96 → b_text (s * 96 + i) = T i) (hR : ∀ i, i < 96 → T i ≤ 126) (hL : b_len s = nI n) (hn : n ≤ 96) (hp : p ≤ n) (ho1 : 1 ≤ ol) (ho3 : ol ≤ 3) (hc1 : 1 ≤ cl) (hc3 : cl ≤ 3) (hsp : sp ≤ p) (hC : b_tCount s = nI m) (hI : cp_I s n p ol cl m ps tp st T K N E G oM cM oT b_removed b_tType b_tA b_tB b_tName b_tMatch b_oc b_cc b_openName b_openTok) (hLn : (st m).length = L) (hf : ll_fd T oM ol n (n + 1 - p) p = some q) (hf2 : ll_fd T cM cl n (n + 1 - (q + ol)) (q + ol) = some r) (hok : ll_ok T (q + ol) r) {k : Nat} (hk : ll_kd T (q + ol) r = k) (hk8 : k = 8) (hL2 : L = 0) : ∃ (g_ol' g_cl' g_newOl' g_newCl' g_tagName' g_parseErr' g_openCount' : Int32) (b_removed' b_tType' b_tA' b_tB' b_tName' b_tMatch' b_tCount' b_oc' b_cc' b_newO' b_newC' b_openName' b_openTok' : Nat → Int32), fr_Y s b_removed b_tType b_tA b_tB b_tName b_tMatch b_tCount b_removed' b_tType' b_tA' b_tB' b_tName' b_tMatch' b_tCount' ∧ g_parseErr' = nI q ∧ ∀ (post : Int32 → SY → Prop) (F : Nat), post (-5) (g_ol', g_cl', g_newOl', g_newCl', g_tagName', g_parseErr', g_openCount', g_nVals, g_outLen, g_outCap, g_fn, g_cn, b_text, b_len, b_stat, b_errPos, b_removed', b_tType', b_tA', b_tB', b_tName', b_tMatch', b_tCount', b_oc', b_cc', b_newO', b_newC', b_openName', b_openTok', b_vKind, b_vNum, b_vCnt, b_vStr, b_vItem, b_vKey, b_vVal, b_out, b_fv, b_cKind, b_cSlot, b_cTok, b_cVal, b_cIdx, b_dig) → wY_parse_97 post (nI s) (nI n) (F + 1) (nI p) (nI sp) (nI ol) (nI cl) g_newOl g_newCl g_tagName g_parseErr (nI L) g_nVals g_outLen g_outCap g_fn g_cn b_text b_len b_stat b_errPos b_removed b_tType b_tA b_tB b_tName b_tMatch b_tCount b_oc b_cc b_newO b_newC b_openName b_openTok b_vKind b_vNum b_vCnt b_vStr b_vItem b_vKey b_vVal b_out b_fv b_cKind b_cSlot b_cTok b_cVal b_cIdx b_dig := by
  obtain ⟨f1, f2, f3⟩ := ll_fd_s _ _ _ hf
  obtain ⟨m1, ps1, tp1, st1, ty1, tA1, tB1, tN1, tM1, tC1, c1, c2, c3, c4, c5⟩ := ya_L (g_ol := nI ol) (g_cl := nI cl) (g_newOl := g_newOl) (g_newCl := g_newCl) (g_tagName := g_tagName) (g_parseErr := g_parseErr) (g_openCount := nI L) (g_nVals := g_nVals) (g_outLen := g_outLen) (g_outCap := g_outCap) (g_fn := g_fn) (g_cn := g_cn) (b_text := b_text) (b_len := b_len) (b_stat := b_stat) (b_errPos := b_errPos) (b_removed := b_removed) (b_tType := b_tType) (b_tA := b_tA) (b_tB := b_tB) (b_tName := b_tName) (b_tMatch := b_tMatch) (b_tCount := b_tCount) (b_oc := b_oc) (b_cc := b_cc) (b_newO := b_newO) (b_newC := b_newC) (b_openName := b_openName) (b_openTok := b_openTok) (b_vKind := b_vKind) (b_vNum := b_vNum) (b_vCnt := b_vCnt) (b_vStr := b_vStr) (b_vItem := b_vItem) (b_vKey := b_vKey) (b_vVal := b_vVal) (b_out := b_out) (b_fv := b_fv) (b_cKind := b_cKind) (b_cSlot := b_cSlot) (b_cTok := b_cTok) (b_cVal := b_cVal) (b_cIdx := b_cIdx) (b_dig := b_dig) hs hn f1 (by omega : q ≤ n) hC hI
  have hm1 := tk_mp c4.1
  obtain ⟨f4, f5, f6⟩ := ll_fd_s _ _ _ hf2
  have kb := ll_kd_b T (q + ol) r
  obtain ⟨o', c', l1, l2, tn, hm5, htn, hcl⟩ := yc_T (g_ol := nI ol) (g_cl := nI cl) (g_newOl := g_newOl) (g_newCl := g_newCl) (g_tagName := g_tagName) (g_parseErr := g_parseErr) (g_openCount := nI L) (g_nVals := g_nVals) (g_outLen := g_outLen) (g_outCap := g_outCap) (g_fn := g_fn) (g_cn := g_cn) (b_text := b_text) (b_len := b_len) (b_stat := b_stat) (b_errPos := b_errPos) (b_removed := b_removed) (b_tType := ty1) (b_tA := tA1) (b_tB := tB1) (b_tName := tN1) (b_tMatch := tM1) (b_tCount := tC1) (b_oc := b_oc) (b_cc := b_cc) (b_newO := b_newO) (b_newC := b_newC) (b_openName := b_openName) (b_openTok := b_openTok) (b_vKind := b_vKind) (b_vNum := b_vNum) (b_vCnt := b_vCnt) (b_vStr := b_vStr) (b_vItem := b_vItem) (b_vKey := b_vKey) (b_vVal := b_vVal) (b_out := b_out) (b_fv := b_fv) (b_cKind := b_cKind) (b_cSlot := b_cSlot) (b_cTok := b_cTok) (b_cVal := b_cVal) (b_cIdx := b_cIdx) (b_dig := b_dig) (a := q + ol) (b := r) hs hT hR (by omega) f4 hok
  rw [← nI_add q ol] at hcl
  have ety : ll_ty (ll_kd T (q + ol) r) = k := by rw [hk]; unfold ll_ty; rw [if_neg (by omega), if_neg (by omega), if_neg (by omega), if_neg (by omega)]
  rw [ety] at hcl
  refine ⟨nI ol, nI cl, l1, l2, tn, nI q, nI L, b_removed, ty1, tA1, tB1, tN1, tM1, tC1, b_oc, b_cc, o', c', b_openName, b_openTok, ?_, rfl, fun post F h => ?_⟩
  · exact c3
  · exact br_f (nI_nlt (a := 97) (by omega) (by decide)) (yl_findE0 (O := oM) hs hT hL ho3 hn hp hI.2.2.2.2.1 hf (br_t (nI_pos' (by omega)) (c5 _ (yl_findE1 (x := q + ol) (O := cM) hs hT hL hc3 hn (by omega) hI.2.2.2.2.2.1 hf2 (nI_add q ol) (br_t (nI_pos' (by omega)) (nm_r (nI_add r cl) (hcl _ (br_t (nI_pos' (by omega)) (br_f (by rw [hk8]; decide) (br_f (by rw [hk8]; decide) (br_t (by rw [hk8]; rfl) (br_t (by rw [hL2]; rfl) h))))))))))))

theorem yz_endF1 (hs : s < 4) (hT : ∀ i, i < 96 → b_text (s * 96 + i) = T i) (hR : ∀ i, i < 96 → T i ≤ 126) (hL : b_len s = nI n) (hn : n ≤ 96) (hp : p ≤ n) (ho1 : 1 ≤ ol) (ho3 : ol ≤ 3) (hc1 : 1 ≤ cl) (hc3 : cl ≤ 3) (hsp : sp ≤ p) (hC : b_tCount s = nI m) (hI : cp_I s n p ol cl m ps tp st T K N E G oM cM oT b_removed b_tType b_tA b_tB b_tName b_tMatch b_oc b_cc b_openName b_openTok) (hLn : (st m).length = L) (hf : ll_fd T oM ol n (n + 1 - p) p = some q) (hf2 : ll_fd T cM cl n (n + 1 - (q + ol)) (q + ol) = some r) (hok : ll_ok T (q + ol) r) {k : Nat} (hk : ll_kd T (q + ol) r = k) (hk8 : k = 8) (hL2 : 0 < L) (hnm : b_openName (L - 1) ≠ ll_na T (q + ol) r) : ∃ (g_ol' g_cl' g_newOl' g_newCl' g_tagName' g_parseErr' g_openCount' : Int32) (b_removed' b_tType' b_tA' b_tB' b_tName' b_tMatch' b_tCount' b_oc' b_cc' b_newO' b_newC' b_openName' b_openTok' : Nat → Int32), fr_Y s b_removed b_tType b_tA b_tB b_tName b_tMatch b_tCount b_removed' b_tType' b_tA' b_tB' b_tName' b_tMatch' b_tCount' ∧ g_parseErr' = nI q ∧ ∀ (post : Int32 → SY → Prop) (F : Nat), post (-5) (g_ol', g_cl', g_newOl', g_newCl', g_tagName', g_parseErr', g_openCount', g_nVals, g_outLen, g_outCap, g_fn, g_cn, b_text, b_len, b_stat, b_errPos, b_removed', b_tType', b_tA', b_tB', b_tName', b_tMatch', b_tCount', b_oc', b_cc', b_newO', b_newC', b_openName', b_openTok', b_vKind, b_vNum, b_vCnt, b_vStr, b_vItem, b_vKey, b_vVal, b_out, b_fv, b_cKind, b_cSlot, b_cTok, b_cVal, b_cIdx, b_dig) → wY_parse_97 post (nI s) (nI n) (F + 1) (nI p) (nI sp) (nI ol) (nI cl) g_newOl g_newCl g_tagName g_parseErr (nI L) g_nVals g_outLen g_outCap g_fn g_cn b_text b_len b_stat b_errPos b_removed b_tType b_tA b_tB b_tName b_tMatch b_tCount b_oc b_cc b_newO b_newC b_openName b_openTok b_vKind b_vNum b_vCnt b_vStr b_vItem b_vKey b_vVal b_out b_fv b_cKind b_cSlot b_cTok b_cVal b_cIdx b_dig := by
  obtain ⟨f1, f2, f3⟩ := ll_fd_s _ _ _ hf
  obtain ⟨m1, ps1, tp1, st1, ty1, tA1, tB1, tN1, tM1, tC1, c1, c2, c3, c4, c5⟩ := ya_L (g_ol := nI ol) (g_cl := nI cl) (g_newOl := g_newOl) (g_newCl := g_newCl) (g_tagName := g_tagName) (g_parseErr := g_parseErr) (g_openCount := nI L) (g_nVals := g_nVals) (g_outLen := g_outLen) (g_outCap := g_outCap) (g_fn := g_fn) (g_cn := g_cn) (b_text := b_text) (b_len := b_len) (b_stat := b_stat) (b_errPos := b_errPos) (b_removed := b_removed) (b_tType := b_tType) (b_tA := b_tA) (b_tB := b_tB) (b_tName := b_tName) (b_tMatch := b_tMatch) (b_tCount := b_tCount) (b_oc := b_oc) (b_cc := b_cc) (b_newO := b_newO) (b_newC := b_newC) (b_openName := b_openName) (b_openTok := b_openTok) (b_vKind := b_vKind) (b_vNum := b_vNum) (b_vCnt := b_vCnt) (b_vStr := b_vStr) (b_vItem := b_vItem) (b_vKey := b_vKey) (b_vVal := b_vVal) (b_out := b_out) (b_fv := b_fv) (b_cKind := b_cKind) (b_cSlot := b_cSlot) (b_cTok := b_cTok) (b_cVal := b_cVal) (b_cIdx := b_cIdx) (b_dig := b_dig) hs hn f1 (by omega : q ≤ n) hC hI
  have hm1 := tk_mp c4.1
  obtain ⟨f4, f5, f6⟩ := ll_fd_s _ _ _ hf2
  have kb := ll_kd_b T (q + ol) r
  obtain ⟨o', c', l1, l2, tn, hm5, htn, hcl⟩ := yc_T (g_ol := nI ol) (g_cl := nI cl) (g_newOl := g_newOl) (g_newCl := g_newCl) (g_tagName := g_tagName) (g_parseErr := g_parseErr) (g_openCount := nI L) (g_nVals := g_nVals) (g_outLen := g_outLen) (g_outCap := g_outCap) (g_fn := g_fn) (g_cn := g_cn) (b_text := b_text) (b_len := b_len) (b_stat := b_stat) (b_errPos := b_errPos) (b_removed := b_removed) (b_tType := ty1) (b_tA := tA1) (b_tB := tB1) (b_tName := tN1) (b_tMatch := tM1) (b_tCount := tC1) (b_oc := b_oc) (b_cc := b_cc) (b_newO := b_newO) (b_newC := b_newC) (b_openName := b_openName) (b_openTok := b_openTok) (b_vKind := b_vKind) (b_vNum := b_vNum) (b_vCnt := b_vCnt) (b_vStr := b_vStr) (b_vItem := b_vItem) (b_vKey := b_vKey) (b_vVal := b_vVal) (b_out := b_out) (b_fv := b_fv) (b_cKind := b_cKind) (b_cSlot := b_cSlot) (b_cTok := b_cTok) (b_cVal := b_cVal) (b_cIdx := b_cIdx) (b_dig := b_dig) (a := q + ol) (b := r) hs hT hR (by omega) f4 hok
  rw [← nI_add q ol] at hcl
  have ety : ll_ty (ll_kd T (q + ol) r) = k := by rw [hk]; unfold ll_ty; rw [if_neg (by omega), if_neg (by omega), if_neg (by omega), if_neg (by omega)]
  rw [ety] at hcl
  refine ⟨nI ol, nI cl, l1, l2, tn, nI q, nI L, b_removed, ty1, tA1, tB1, tN1, tM1, tC1, b_oc, b_cc, o', c', b_openName, b_openTok, ?_, rfl, fun post F h => ?_⟩
  · exact c3
  · exact br_f (nI_nlt (a := 97) (by omega) (by decide)) (yl_findE0 (O := oM) hs hT hL ho3 hn hp hI.2.2.2.2.1 hf (br_t (nI_pos' (by omega)) (c5 _ (yl_findE1 (x := q + ol) (O := cM) hs hT hL hc3 hn (by omega) hI.2.2.2.2.2.1 hf2 (nI_add q ol) (br_t (nI_pos' (by omega)) (nm_r (nI_add r cl) (hcl _ (br_t (nI_pos' (by omega)) (br_f (by rw [hk8]; decide) (br_f (by rw [hk8]; decide) (br_t (by rw [hk8]; rfl) (br_f (nI_ne0 hL2 (by have := cp_len hI; omega)) ⟨by rw [la_s hL2]; exact vp_in_nI (by have := cp_len hI; omega) (by omega), br_f (by rw [la_s hL2, nI_clamp (by have := cp_len hI; omega), htn (by omega) (by omega)]; exact hnm) h⟩))))))))))))

theorem yz_incF (hs : s < 4) (hT : ∀ i, i < 96 → b_text (s * 96 + i) = T i) (hR : ∀ i, i < 96 → T i ≤ 126) (hL : b_len s = nI n) (hn : n ≤ 96) (hp : p ≤ n) (ho1 : 1 ≤ ol) (ho3 : ol ≤ 3) (hc1 : 1 ≤ cl) (hc3 : cl ≤ 3) (hsp : sp ≤ p) (hC : b_tCount s = nI m) (hI : cp_I s n p ol cl m ps tp st T K N E G oM cM oT b_removed b_tType b_tA b_tB b_tName b_tMatch b_oc b_cc b_openName b_openTok) (hLn : (st m).length = L) (hf : ll_fd T oM ol n (n + 1 - p) p = some q) (hf2 : ll_fd T cM cl n (n + 1 - (q + ol)) (q + ol) = some r) (hok : ll_ok T (q + ol) r) {k : Nat} (hk : ll_kd T (q + ol) r = k) (hk9 : k = 9) (hs0 : s ≠ 0) : ∃ (g_ol' g_cl' g_newOl' g_newCl' g_tagName' g_parseErr' g_openCount' : Int32) (b_removed' b_tType' b_tA' b_tB' b_tName' b_tMatch' b_tCount' b_oc' b_cc' b_newO' b_newC' b_openName' b_openTok' : Nat → Int32), fr_Y s b_removed b_tType b_tA b_tB b_tName b_tMatch b_tCount b_removed' b_tType' b_tA' b_tB' b_tName' b_tMatch' b_tCount' ∧ g_parseErr' = nI q ∧ ∀ (post : Int32 → SY → Prop) (F : Nat), post (-6) (g_ol', g_cl', g_newOl', g_newCl', g_tagName', g_parseErr', g_openCount', g_nVals, g_outLen, g_outCap, g_fn, g_cn, b_text, b_len, b_stat, b_errPos, b_removed', b_tType', b_tA', b_tB', b_tName', b_tMatch', b_tCount', b_oc', b_cc', b_newO', b_newC', b_openName', b_openTok', b_vKind, b_vNum, b_vCnt, b_vStr, b_vItem, b_vKey, b_vVal, b_out, b_fv, b_cKind, b_cSlot, b_cTok, b_cVal, b_cIdx, b_dig) → wY_parse_97 post (nI s) (nI n) (F + 1) (nI p) (nI sp) (nI ol) (nI cl) g_newOl g_newCl g_tagName g_parseErr (nI L) g_nVals g_outLen g_outCap g_fn g_cn b_text b_len b_stat b_errPos b_removed b_tType b_tA b_tB b_tName b_tMatch b_tCount b_oc b_cc b_newO b_newC b_openName b_openTok b_vKind b_vNum b_vCnt b_vStr b_vItem b_vKey b_vVal b_out b_fv b_cKind b_cSlot b_cTok b_cVal b_cIdx b_dig := by
  obtain ⟨f1, f2, f3⟩ := ll_fd_s _ _ _ hf
  obtain ⟨m1, ps1, tp1, st1, ty1, tA1, tB1, tN1, tM1, tC1, c1, c2, c3, c4, c5⟩ := ya_L (g_ol := nI ol) (g_cl := nI cl) (g_newOl := g_newOl) (g_newCl := g_newCl) (g_tagName := g_tagName) (g_parseErr := g_parseErr) (g_openCount := nI L) (g_nVals := g_nVals) (g_outLen := g_outLen) (g_outCap := g_outCap) (g_fn := g_fn) (g_cn := g_cn) (b_text := b_text) (b_len := b_len) (b_stat := b_stat) (b_errPos := b_errPos) (b_removed := b_removed) (b_tType := b_tType) (b_tA := b_tA) (b_tB := b_tB) (b_tName := b_tName) (b_tMatch := b_tMatch) (b_tCount := b_tCount) (b_oc := b_oc) (b_cc := b_cc) (b_newO := b_newO) (b_newC := b_newC) (b_openName := b_openName) (b_openTok := b_openTok) (b_vKind := b_vKind) (b_vNum := b_vNum) (b_vCnt := b_vCnt) (b_vStr := b_vStr) (b_vItem := b_vItem) (b_vKey := b_vKey) (b_vVal := b_vVal) (b_out := b_out) (b_fv := b_fv) (b_cKind := b_cKind) (b_cSlot := b_cSlot) (b_cTok := b_cTok) (b_cVal := b_cVal) (b_cIdx := b_cIdx) (b_dig := b_dig) hs hn f1 (by omega : q ≤ n) hC hI
  have hm1 := tk_mp c4.1
  obtain ⟨f4, f5, f6⟩ := ll_fd_s _ _ _ hf2
  have kb := ll_kd_b T (q + ol) r
  obtain ⟨o', c', l1, l2, tn, hm5, htn, hcl⟩ := yc_T (g_ol := nI ol) (g_cl := nI cl) (g_newOl := g_newOl) (g_newCl := g_newCl) (g_tagName := g_tagName) (g_parseErr := g_parseErr) (g_openCount := nI L) (g_nVals := g_nVals) (g_outLen := g_outLen) (g_outCap := g_outCap) (g_fn := g_fn) (g_cn := g_cn) (b_text := b_text) (b_len := b_len) (b_stat := b_stat) (b_errPos := b_errPos) (b_removed := b_removed) (b_tType := ty1) (b_tA := tA1) (b_tB := tB1) (b_tName := tN1) (b_tMatch := tM1) (b_tCount := tC1) (b_oc := b_oc) (b_cc := b_cc) (b_newO := b_newO) (b_newC := b_newC) (b_openName := b_openName) (b_openTok := b_openTok) (b_vKind := b_vKind) (b_vNum := b_vNum) (b_vCnt := b_vCnt) (b_vStr := b_vStr) (b_vItem := b_vItem) (b_vKey := b_vKey) (b_vVal := b_vVal) (b_out := b_out) (b_fv := b_fv) (b_cKind := b_cKind) (b_cSlot := b_cSlot) (b_cTok := b_cTok) (b_cVal := b_cVal) (b_cIdx := b_cIdx) (b_dig := b_dig) (a := q + ol) (b := r) hs hT hR (by omega) f4 hok
  rw [← nI_add q ol] at hcl
  have ety : ll_ty (ll_kd T (q + ol) r) = k := by rw [hk]; unfold ll_ty; rw [if_neg (by omega), if_neg (by omega), if_neg (by omega), if_neg (by omega)]
  rw [ety] at hcl
  refine ⟨nI ol, nI cl, l1, l2, tn, nI q, nI L, b_removed, ty1, tA1, tB1, tN1, tM1, tC1, b_oc, b_cc, o', c', b_openName, b_openTok, ?_, rfl, fun post F h => ?_⟩
  · exact c3
  · exact br_f (nI_nlt (a := 97) (by omega) (by decide)) (yl_findE0 (O := oM) hs hT hL ho3 hn hp hI.2.2.2.2.1 hf (br_t (nI_pos' (by omega)) (c5 _ (yl_findE1 (x := q + ol) (O := cM) hs hT hL hc3 hn (by omega) hI.2.2.2.2.2.1 hf2 (nI_add q ol) (br_t (nI_pos' (by omega)) (nm_r (nI_add r cl) (hcl _ (br_t (nI_pos' (by omega)) (br_f (by rw [hk9]; decide) (br_f (by rw [hk9]; decide) (br_f (by rw [hk9]; decide) (br_t (by rw [hk9]; rfl) (br_f (nI_ne0 (by omega) (by omega)) h)))))))))))))

end LLYZ
end
section
section LLYW
variable {g_ol g_cl g_newOl g_newCl g_tagName g_parseErr g_openCount g_nVals g_outLen g_outCap g_fn g_cn : Int32} {b_text b_len b_stat b_errPos b_removed b_tType b_tA b_tB b_tName b_tMatch b_tCount b_oc b_cc b_newO b_newC b_openName b_openTok b_vKind b_vNum b_vCnt b_vStr b_vItem b_vKey b_vVal b_out b_fv b_cKind b_cSlot b_cTok b_cVal b_cIdx b_dig : Nat → Int32}
variable {s n p q r m ol cl sp L ol' cl' : Nat} {ps tp : Nat → Nat} {st : Nat → List Nat} {T K N E G oM cM oT K' N' oM' cM' : Nat → Int32}

theorem ll_ok_nm {a b : Nat} (h : ll_ok T a b) (n4 : ll_kd T a b ≠ 4) (n5 : ll_kd T a b ≠ 5) : (ll_kd T a b = 9 → 49 ≤ ll_na T a b ∧ ll_na T a b ≤ 51) ∧ (ll_kd T a b ≠ 9 → ll_nm (ll_na T a b)) := by
  unfold ll_ok at h
  rw [if_neg n4, if_neg n5] at h
  by_cases z : ll_kd T a b = 9
  · rw [if_pos z] at h
    exact ⟨fun _ => h, fun w => absurd z w⟩
  · rw [if_neg z] at h
    exact ⟨fun w => absurd w z, fun _ => h⟩
theorem ty_n : ∀ k, k ≤ 9 → 2 ≤ k → ((nI (ll_ty k) = 6 ↔ k = 6) ∧ (nI (ll_ty k) = 7 ↔ k = 7) ∧ (nI (ll_ty k) = 8 ↔ k = 8) ∧ (nI (ll_ty k) = 9 ↔ k = 9)) := by decide
theorem ty_n3 : ∀ k, k ≤ 9 → 2 ≤ k → ((nI (ll_ty k) = 3 ↔ k = 5) ∧ (ll_ty k = 9 ↔ k = 9) ∧ (4 ≤ ll_ty k ↔ (k ≠ 4 ∧ k ≠ 5)) ∧ (0 : Int32) ≤ nI (ll_ty k)) := by decide
theorem ty_n6 : ∀ k, k ≤ 9 → 2 ≤ k → ((ll_ty k = 6 ↔ k = 6) ∧ (ll_ty k = 7 ↔ k = 7) ∧ (ll_ty k = 8 ↔ k = 8)) := by decide

theorem yz_oth (hs : s < 4) (hT : ∀ i, i < 96 → b_text (s * 96 + i) = T i) (hR : ∀ i, i < 96 → T i ≤ 126) (hL : b_len s = nI n) (hn : n ≤ 96) (hp : p ≤ n) (ho1 : 1 ≤ ol) (ho3 : ol ≤ 3) (hc1 : 1 ≤ cl) (hc3 : cl ≤ 3) (hsp : sp ≤ p) (hC : b_tCount s = nI m) (hI : cp_I s n p ol cl m ps tp st T K N E G oM cM oT b_removed b_tType b_tA b_tB b_tName b_tMatch b_oc b_cc b_openName b_openTok) (hLn : (st m).length = L) (hf : ll_fd T oM ol n (n + 1 - p) p = some q) (hf2 : ll_fd T cM cl n (n + 1 - (q + ol)) (q + ol) = some r) (hok : ll_ok T (q + ol) r) (hT32 : 32 < T q) (hX : xr_P s n q r ol cl (r + cl) (ll_kd T (q + ol) r) T K N oM cM K' N' oM' cM' ol' cl') (k5 : ll_kd T (q + ol) r ≠ 5) (k6 : ll_kd T (q + ol) r ≠ 6) (k7 : ll_kd T (q + ol) r ≠ 7) (k8 : ll_kd T (q + ol) r ≠ 8) (k9 : ll_kd T (q + ol) r = 9 → s = 0) : ∃ (g_ol' g_cl' g_newOl' g_newCl' g_tagName' g_parseErr' g_openCount' : Int32) (b_removed' b_tType' b_tA' b_tB' b_tName' b_tMatch' b_tCount' b_oc' b_cc' b_newO' b_newC' b_openName' b_openTok' : Nat → Int32), ∃ (m' : Nat) (ps' tp' : Nat → Nat) (st' : Nat → List Nat), b_tCount' s = nI m' ∧ (st' m').length = L ∧ fr_Y s b_removed b_tType b_tA b_tB b_tName b_tMatch b_tCount b_removed' b_tType' b_tA' b_tB' b_tName' b_tMatch' b_tCount' ∧ cp_I s n (r + cl) ol cl m' ps' tp' st' T K' N' (upd E (s * 96 + q) (nI (s * 96 + (r + cl)))) G oM cM oT b_removed' b_tType' b_tA' b_tB' b_tName' b_tMatch' b_oc' b_cc' b_openName' b_openTok' ∧ g_ol' = nI ol ∧ g_cl' = nI cl ∧ g_openCount' = nI (L) ∧ ∀ (post : Int32 → SY → Prop) (F : Nat), wY_parse_97 post (nI s) (nI n) F (nI (r + cl)) (nI (sp + 1)) g_ol' g_cl' g_newOl' g_newCl' g_tagName' g_parseErr' g_openCount' g_nVals g_outLen g_outCap g_fn g_cn b_text b_len b_stat b_errPos b_removed' b_tType' b_tA' b_tB' b_tName' b_tMatch' b_tCount' b_oc' b_cc' b_newO' b_newC' b_openName' b_openTok' b_vKind b_vNum b_vCnt b_vStr b_vItem b_vKey b_vVal b_out b_fv b_cKind b_cSlot b_cTok b_cVal b_cIdx b_dig → wY_parse_97 post (nI s) (nI n) (F + 1) (nI p) (nI sp) (nI ol) (nI cl) g_newOl g_newCl g_tagName g_parseErr (nI L) g_nVals g_outLen g_outCap g_fn g_cn b_text b_len b_stat b_errPos b_removed b_tType b_tA b_tB b_tName b_tMatch b_tCount b_oc b_cc b_newO b_newC b_openName b_openTok b_vKind b_vNum b_vCnt b_vStr b_vItem b_vKey b_vVal b_out b_fv b_cKind b_cSlot b_cTok b_cVal b_cIdx b_dig := by
  obtain ⟨f1, f2, f3⟩ := ll_fd_s _ _ _ hf
  obtain ⟨m1, ps1, tp1, st1, ty1, tA1, tB1, tN1, tM1, tC1, c1, c2, c3, c4, c5⟩ := ya_L (g_ol := nI ol) (g_cl := nI cl) (g_newOl := g_newOl) (g_newCl := g_newCl) (g_tagName := g_tagName) (g_parseErr := g_parseErr) (g_openCount := nI L) (g_nVals := g_nVals) (g_outLen := g_outLen) (g_outCap := g_outCap) (g_fn := g_fn) (g_cn := g_cn) (b_text := b_text) (b_len := b_len) (b_stat := b_stat) (b_errPos := b_errPos) (b_removed := b_removed) (b_tType := b_tType) (b_tA := b_tA) (b_tB := b_tB) (b_tName := b_tName) (b_tMatch := b_tMatch) (b_tCount := b_tCount) (b_oc := b_oc) (b_cc := b_cc) (b_newO := b_newO) (b_newC := b_newC) (b_openName := b_openName) (b_openTok := b_openTok) (b_vKind := b_vKind) (b_vNum := b_vNum) (b_vCnt := b_vCnt) (b_vStr := b_vStr) (b_vItem := b_vItem) (b_vKey := b_vKey) (b_vVal := b_vVal) (b_out := b_out) (b_fv := b_fv) (b_cKind := b_cKind) (b_cSlot := b_cSlot) (b_cTok := b_cTok) (b_cVal := b_cVal) (b_cIdx := b_cIdx) (b_dig := b_dig) hs hn f1 (by omega : q ≤ n) hC hI
  have hm1 := tk_mp c4.1
  obtain ⟨f4, f5, f6⟩ := ll_fd_s _ _ _ hf2
  have kb := ll_kd_b T (q + ol) r
  obtain ⟨o', c', l1, l2, tn, hm5, htn, hcl⟩ := yc_T (g_ol := nI ol) (g_cl := nI cl) (g_newOl := g_newOl) (g_newCl := g_newCl) (g_tagName := g_tagName) (g_parseErr := g_parseErr) (g_openCount := nI L) (g_nVals := g_nVals) (g_outLen := g_outLen) (g_outCap := g_outCap) (g_fn := g_fn) (g_cn := g_cn) (b_text := b_text) (b_len := b_len) (b_stat := b_stat) (b_errPos := b_errPos) (b_removed := b_removed) (b_tType := ty1) (b_tA := tA1) (b_tB := tB1) (b_tName := tN1) (b_tMatch := tM1) (b_tCount := tC1) (b_oc := b_oc) (b_cc := b_cc) (b_newO := b_newO) (b_newC := b_newC) (b_openName := b_openName) (b_openTok := b_openTok) (b_vKind := b_vKind) (b_vNum := b_vNum) (b_vCnt := b_vCnt) (b_vStr := b_vStr) (b_vItem := b_vItem) (b_vKey := b_vKey) (b_vVal := b_vVal) (b_out := b_out) (b_fv := b_fv) (b_cKind := b_cKind) (b_cSlot := b_cSlot) (b_cTok := b_cTok) (b_cVal := b_cVal) (b_cIdx := b_cIdx) (b_dig := b_dig) (a := q + ol) (b := r) hs hT hR (by omega) f4 hok
  rw [← nI_add q ol] at hcl
  obtain ⟨x1, x2, x3, x4, x5, x6, x7⟩ := hX
  have kt := tk_kty (ll_kd T (q + ol) r) kb.2 kb.1
  have t1 := ty_n (ll_kd T (q + ol) r) kb.2 kb.1
  have t3 := ty_n3 (ll_kd T (q + ol) r) kb.2 kb.1
  have t6 := ty_n6 (ll_kd T (q + ol) r) kb.2 kb.1
  have hxK : K' (s * 96 + q) = nI (tk_k (ll_ty (ll_kd T (q + ol) r))) := by rw [kt.1]; exact x1
  have hxN : ∀ c, c < n → c ≠ q → N' (s * 96 + c) = N (s * 96 + c) := fun c _ h => x4 _ (by omega)
  have hxx : 4 ≤ ll_ty (ll_kd T (q + ol) r) → N' (s * 96 + q) = tn ∧ (ll_ty (ll_kd T (q + ol) r) = 9 → 49 ≤ tn ∧ tn ≤ 51) ∧ (ll_ty (ll_kd T (q + ol) r) ≠ 9 → ll_nm tn) := fun h => by
    obtain ⟨a, b⟩ := t3.2.2.1.mp h
    rw [htn a b]
    have := ll_ok_nm hok a b
    exact ⟨x5 a b, fun z => this.1 (t3.2.1.mp z), fun z => this.2 (fun y => z (t3.2.1.mpr y))⟩
  have hrm : ∀ c, c < n → (ll_kd T (q + ol) r ≠ 2 ∧ ll_kd T (q + ol) r ≠ 3 ∧ rm_P T n q (r + cl) c) → T c = 32 ∨ T c = 10 := fun c _ h => rm_ch (by omega) h.2.2
  obtain ⟨R', r1, r2, r3⟩ := ya_475 (g_ol := nI ol) (g_cl := nI cl) (g_newOl := l1) (g_newCl := l2) (g_tagName := tn) (g_parseErr := g_parseErr) (g_openCount := nI L) (g_nVals := g_nVals) (g_outLen := g_outLen) (g_outCap := g_outCap) (g_fn := g_fn) (g_cn := g_cn) (b_text := b_text) (b_len := b_len) (b_stat := b_stat) (b_errPos := b_errPos) (b_removed := b_removed) (b_tType := ty1) (b_tA := tA1) (b_tB := tB1) (b_tName := tN1) (b_tMatch := tM1) (b_tCount := tC1) (b_oc := b_oc) (b_cc := b_cc) (b_newO := o') (b_newC := c') (b_openName := b_openName) (b_openTok := b_openTok) (b_vKind := b_vKind) (b_vNum := b_vNum) (b_vCnt := b_vCnt) (b_vStr := b_vStr) (b_vItem := b_vItem) (b_vKey := b_vKey) (b_vVal := b_vVal) (b_out := b_out) (b_fv := b_fv) (b_cKind := b_cKind) (b_cSlot := b_cSlot) (b_cTok := b_cTok) (b_cVal := b_cVal) (b_cIdx := b_cIdx) (b_dig := b_dig) (q := q) (e := r + cl) (m := m1) (sp := sp) (k := ll_kd T (q + ol) r) (x9 := tn) hs hT hL hn (by omega) (by omega) (by omega) kb.1 kb.2 c1
  have hz := cp_tag (K' := K') (N' := N') (R' := R') (oM' := oM) (cM' := cM) (oc' := b_oc) (cc' := b_cc) c4 (ol' := ol) (cl' := cl) (e := r + cl) (k := ll_ty (ll_kd T (q + ol) r)) (x := tn) 0 (fun c => ll_kd T (q + ol) r ≠ 2 ∧ ll_kd T (q + ol) r ≠ 3 ∧ rm_P T n q (r + cl) c) (by omega) (by omega) kt.2.1 kt.2.2 hT32 hxK x2 r1 hrm hxN hxx (fun y => k6 (t6.1.mp y)) (fun y => k7 (t6.2.1.mp y)) (fun y => k8 (t6.2.2.mp y)) (fun y z => y (k9 (t3.2.1.mp z))) hI.2.2.2.2.1 hI.2.2.2.2.2.1
  refine ⟨nI ol, nI cl, l1, l2, tn, g_parseErr, nI L, R', upd ty1 (s * 100 + m1) (nI (ll_ty (ll_kd T (q + ol) r))), upd tA1 (s * 100 + m1) (nI q), upd tB1 (s * 100 + m1) (nI (r + cl)), upd tN1 (s * 100 + m1) tn, upd tM1 (s * 100 + m1) 0, upd tC1 s (nI (m1 + 1)), b_oc, b_cc, o', c', b_openName, b_openTok, m1 + 1, _, _, _, pk_us, ?_, fr_tr c3 (fr_tok (by omega) r2), hz, rfl, rfl, rfl, fun post F h => ?_⟩
  · rw [fu_s, c2, hLn]
  · have g381 : wY_parse_381 post (wY_parse_97 post (nI s) (nI n) F) (nI s) (nI n) (nI sp) (nI q) (nI (r + cl)) (nI (ll_ty (ll_kd T (q + ol) r))) tn (nI ol) (nI cl) l1 l2 tn g_parseErr (nI L) g_nVals g_outLen g_outCap g_fn g_cn b_text b_len b_stat b_errPos b_removed ty1 tA1 tB1 tN1 tM1 tC1 b_oc b_cc o' c' b_openName b_openTok b_vKind b_vNum b_vCnt b_vStr b_vItem b_vKey b_vVal b_out b_fv b_cKind b_cSlot b_cTok b_cVal b_cIdx b_dig := br_f (fun y => k5 (t3.1.mp y)) (r3 post F h)
    exact br_f (nI_nlt (a := 97) (by omega) (by decide)) (yl_findE0 (O := oM) hs hT hL ho3 hn hp hI.2.2.2.2.1 hf (br_t (nI_pos' (by omega)) (c5 _ (yl_findE1 (x := q + ol) (O := cM) hs hT hL hc3 hn (by omega) hI.2.2.2.2.2.1 hf2 (nI_add q ol) (br_t (nI_pos' (by omega)) (nm_r (nI_add r cl) (hcl _ (br_t t3.2.2.2 (br_f (fun y => k6 (t1.1.mp y)) (br_f (fun y => k7 (t1.2.1.mp y)) (br_f (fun y => k8 (t1.2.2.1.mp y)) (br_c (fun y => br_t (by rw [k9 (t1.2.2.2.mp y)]; rfl) g381) (fun y => g381)))))))))))))

theorem yz_set (hs : s < 4) (hT : ∀ i, i < 96 → b_text (s * 96 + i) = T i) (hR : ∀ i, i < 96 → T i ≤ 126) (hL : b_len s = nI n) (hn : n ≤ 96) (hp : p ≤ n) (ho1 : 1 ≤ ol) (ho3 : ol ≤ 3) (hc1 : 1 ≤ cl) (hc3 : cl ≤ 3) (hsp : sp ≤ p) (hC : b_tCount s = nI m) (hI : cp_I s n p ol cl m ps tp st T K N E G oM cM oT b_removed b_tType b_tA b_tB b_tName b_tMatch b_oc b_cc b_openName b_openTok) (hLn : (st m).length = L) (hf : ll_fd T oM ol n (n + 1 - p) p = some q) (hf2 : ll_fd T cM cl n (n + 1 - (q + ol)) (q + ol) = some r) (hok : ll_ok T (q + ol) r) (hT32 : 32 < T q) (hX : xr_P s n q r ol cl (r + cl) (ll_kd T (q + ol) r) T K N oM cM K' N' oM' cM' ol' cl') (k5 : ll_kd T (q + ol) r = 5) : ∃ (g_ol' g_cl' g_newOl' g_newCl' g_tagName' g_parseErr' g_openCount' : Int32) (b_removed' b_tType' b_tA' b_tB' b_tName' b_tMatch' b_tCount' b_oc' b_cc' b_newO' b_newC' b_openName' b_openTok' : Nat → Int32), ∃ (m' : Nat) (ps' tp' : Nat → Nat) (st' : Nat → List Nat), b_tCount' s = nI m' ∧ (st' m').length = L ∧ fr_Y s b_removed b_tType b_tA b_tB b_tName b_tMatch b_tCount b_removed' b_tType' b_tA' b_tB' b_tName' b_tMatch' b_tCount' ∧ cp_I s n (r + cl) ol' cl' m' ps' tp' st' T K' N' (upd E (s * 96 + q) (nI (s * 96 + (r + cl)))) G oM' cM' oT b_removed' b_tType' b_tA' b_tB' b_tName' b_tMatch' b_oc' b_cc' b_openName' b_openTok' ∧ g_ol' = nI ol' ∧ g_cl' = nI cl' ∧ g_openCount' = nI (L) ∧ ∀ (post : Int32 → SY → Prop) (F : Nat), wY_parse_97 post (nI s) (nI n) F (nI (r + cl)) (nI (sp + 1)) g_ol' g_cl' g_newOl' g_newCl' g_tagName' g_parseErr' g_openCount' g_nVals g_outLen g_outCap g_fn g_cn b_text b_len b_stat b_errPos b_removed' b_tType' b_tA' b_tB' b_tName' b_tMatch' b_tCount' b_oc' b_cc' b_newO' b_newC' b_openName' b_openTok' b_vKind b_vNum b_vCnt b_vStr b_vItem b_vKey b_vVal b_out b_fv b_cKind b_cSlot b_cTok b_cVal b_cIdx b_dig → wY_parse_97 post (nI s) (nI n) (F + 1) (nI p) (nI sp) (nI ol) (nI cl) g_newOl g_newCl g_tagName g_parseErr (nI L) g_nVals g_outLen g_outCap g_fn g_cn b_text b_len b_stat b_errPos b_removed b_tType b_tA b_tB b_tName b_tMatch b_tCount b_oc b_cc b_newO b_newC b_openName b_openTok b_vKind b_vNum b_vCnt b_vStr b_vItem b_vKey b_vVal b_out b_fv b_cKind b_cSlot b_cTok b_cVal b_cIdx b_dig := by
  obtain ⟨f1, f2, f3⟩ := ll_fd_s _ _ _ hf
  obtain ⟨m1, ps1, tp1, st1, ty1, tA1, tB1, tN1, tM1, tC1, c1, c2, c3, c4, c5⟩ := ya_L (g_ol := nI ol) (g_cl := nI cl) (g_newOl := g_newOl) (g_newCl := g_newCl) (g_tagName := g_tagName) (g_parseErr := g_parseErr) (g_openCount := nI L) (g_nVals := g_nVals) (g_outLen := g_outLen) (g_outCap := g_outCap) (g_fn := g_fn) (g_cn := g_cn) (b_text := b_text) (b_len := b_len) (b_stat := b_stat) (b_errPos := b_errPos) (b_removed := b_removed) (b_tType := b_tType) (b_tA := b_tA) (b_tB := b_tB) (b_tName := b_tName) (b_tMatch := b_tMatch) (b_tCount := b_tCount) (b_oc := b_oc) (b_cc := b_cc) (b_newO := b_newO) (b_newC := b_newC) (b_openName := b_openName) (b_openTok := b_openTok) (b_vKind := b_vKind) (b_vNum := b_vNum) (b_vCnt := b_vCnt) (b_vStr := b_vStr) (b_vItem := b_vItem) (b_vKey := b_vKey) (b_vVal := b_vVal) (b_out := b_out) (b_fv := b_fv) (b_cKind := b_cKind) (b_cSlot := b_cSlot) (b_cTok := b_cTok) (b_cVal := b_cVal) (b_cIdx := b_cIdx) (b_dig := b_dig) hs hn f1 (by omega : q ≤ n) hC hI
  have hm1 := tk_mp c4.1
  obtain ⟨f4, f5, f6⟩ := ll_fd_s _ _ _ hf2
  have kb := ll_kd_b T (q + ol) r
  obtain ⟨o', c', l1, l2, tn, hm5, htn, hcl⟩ := yc_T (g_ol := nI ol) (g_cl := nI cl) (g_newOl := g_newOl) (g_newCl := g_newCl) (g_tagName := g_tagName) (g_parseErr := g_parseErr) (g_openCount := nI L) (g_nVals := g_nVals) (g_outLen := g_outLen) (g_outCap := g_outCap) (g_fn := g_fn) (g_cn := g_cn) (b_text := b_text) (b_len := b_len) (b_stat := b_stat) (b_errPos := b_errPos) (b_removed := b_removed) (b_tType := ty1) (b_tA := tA1) (b_tB := tB1) (b_tName := tN1) (b_tMatch := tM1) (b_tCount := tC1) (b_oc := b_oc) (b_cc := b_cc) (b_newO := b_newO) (b_newC := b_newC) (b_openName := b_openName) (b_openTok := b_openTok) (b_vKind := b_vKind) (b_vNum := b_vNum) (b_vCnt := b_vCnt) (b_vStr := b_vStr) (b_vItem := b_vItem) (b_vKey := b_vKey) (b_vVal := b_vVal) (b_out := b_out) (b_fv := b_fv) (b_cKind := b_cKind) (b_cSlot := b_cSlot) (b_cTok := b_cTok) (b_cVal := b_cVal) (b_cIdx := b_cIdx) (b_dig := b_dig) (a := q + ol) (b := r) hs hT hR (by omega) f4 hok
  rw [← nI_add q ol] at hcl
  obtain ⟨x1, x2, x3, x4, x5, x6, x7⟩ := hX
  have kt := tk_kty (ll_kd T (q + ol) r) kb.2 kb.1
  have t1 := ty_n (ll_kd T (q + ol) r) kb.2 kb.1
  have t3 := ty_n3 (ll_kd T (q + ol) r) kb.2 kb.1
  have t6 := ty_n6 (ll_kd T (q + ol) r) kb.2 kb.1
  have hxK : K' (s * 96 + q) = nI (tk_k (ll_ty (ll_kd T (q + ol) r))) := by rw [kt.1]; exact x1
  have hxN : ∀ c, c < n → c ≠ q → N' (s * 96 + c) = N (s * 96 + c) := fun c _ h => x4 _ (by omega)
  have hxx : 4 ≤ ll_ty (ll_kd T (q + ol) r) → N' (s * 96 + q) = tn ∧ (ll_ty (ll_kd T (q + ol) r) = 9 → 49 ≤ tn ∧ tn ≤ 51) ∧ (ll_ty (ll_kd T (q + ol) r) ≠ 9 → ll_nm tn) := fun h => by
    obtain ⟨a, b⟩ := t3.2.2.1.mp h
    rw [htn a b]
    have := ll_ok_nm hok a b
    exact ⟨x5 a b, fun z => this.1 (t3.2.1.mp z), fun z => this.2 (fun y => z (t3.2.1.mpr y))⟩
  have hrm : ∀ c, c < n → (ll_kd T (q + ol) r ≠ 2 ∧ ll_kd T (q + ol) r ≠ 3 ∧ rm_P T n q (r + cl) c) → T c = 32 ∨ T c = 10 := fun c _ h => rm_ch (by omega) h.2.2
  obtain ⟨z1, z2, z3, z4⟩ := x7 k5
  obtain ⟨y1, y2, y3, y4⟩ := hm5 k5
  have hd : ll_dok T (q + ol) r := by
    unfold ll_ok at hok
    rw [if_neg (by omega), if_pos k5] at hok
    exact hok
  rw [← z1] at y1 y3
  rw [← z2] at y2 y4
  have hd4 := hd.2.2.2.1
  have hd5 := hd.2.2.2.2
  obtain ⟨R', r1, r2, r3⟩ := ya_475 (g_ol := l1) (g_cl := l2) (g_newOl := l1) (g_newCl := l2) (g_tagName := tn) (g_parseErr := g_parseErr) (g_openCount := nI L) (g_nVals := g_nVals) (g_outLen := g_outLen) (g_outCap := g_outCap) (g_fn := g_fn) (g_cn := g_cn) (b_text := b_text) (b_len := b_len) (b_stat := b_stat) (b_errPos := b_errPos) (b_removed := b_removed) (b_tType := ty1) (b_tA := tA1) (b_tB := tB1) (b_tName := tN1) (b_tMatch := tM1) (b_tCount := tC1) (b_oc := upd (upd (upd b_oc 0 (o' 0)) 1 (o' 1)) 2 (o' 2)) (b_cc := upd (upd (upd b_cc 0 (c' 0)) 1 (c' 1)) 2 (c' 2)) (b_newO := o') (b_newC := c') (b_openName := b_openName) (b_openTok := b_openTok) (b_vKind := b_vKind) (b_vNum := b_vNum) (b_vCnt := b_vCnt) (b_vStr := b_vStr) (b_vItem := b_vItem) (b_vKey := b_vKey) (b_vVal := b_vVal) (b_out := b_out) (b_fv := b_fv) (b_cKind := b_cKind) (b_cSlot := b_cSlot) (b_cTok := b_cTok) (b_cVal := b_cVal) (b_cIdx := b_cIdx) (b_dig := b_dig) (q := q) (e := r + cl) (m := m1) (sp := sp) (k := ll_kd T (q + ol) r) (x9 := tn) hs hT hL hn (by omega) (by omega) (by omega) kb.1 kb.2 c1
  have hz := cp_tag (K' := K') (N' := N') (R' := R') (oM' := oM') (cM' := cM') (oc' := upd (upd (upd b_oc 0 (o' 0)) 1 (o' 1)) 2 (o' 2)) (cc' := upd (upd (upd b_cc 0 (c' 0)) 1 (c' 1)) 2 (c' 2)) c4 (ol' := ol') (cl' := cl') (e := r + cl) (k := ll_ty (ll_kd T (q + ol) r)) (x := tn) 0 (fun c => ll_kd T (q + ol) r ≠ 2 ∧ ll_kd T (q + ol) r ≠ 3 ∧ rm_P T n q (r + cl) c) (by omega) (by omega) kt.2.1 kt.2.2 hT32 hxK x2 r1 hrm hxN hxx (fun y => by have := t6.1.mp y; omega) (fun y => by have := t6.2.1.mp y; omega) (fun y => by have := t6.2.2.mp y; omega) (fun y z => by have := t3.2.1.mp z; omega) (fun i hi => by rw [up_3 (by omega), y3 i hi, z3 i hi]) (fun i hi => by rw [up_3 (by omega), y4 i hi, z4 i hi])
  refine ⟨l1, l2, l1, l2, tn, g_parseErr, nI L, R', upd ty1 (s * 100 + m1) (nI (ll_ty (ll_kd T (q + ol) r))), upd tA1 (s * 100 + m1) (nI q), upd tB1 (s * 100 + m1) (nI (r + cl)), upd tN1 (s * 100 + m1) tn, upd tM1 (s * 100 + m1) 0, upd tC1 s (nI (m1 + 1)), upd (upd (upd b_oc 0 (o' 0)) 1 (o' 1)) 2 (o' 2), upd (upd (upd b_cc 0 (c' 0)) 1 (c' 1)) 2 (c' 2), o', c', b_openName, b_openTok, m1 + 1, _, _, _, pk_us, ?_, fr_tr c3 (fr_tok (by omega) r2), hz, y1, y2, rfl, fun post F h => ?_⟩
  · rw [fu_s, c2, hLn]
  · have g381 : wY_parse_381 post (wY_parse_97 post (nI s) (nI n) F) (nI s) (nI n) (nI sp) (nI q) (nI (r + cl)) (nI (ll_ty (ll_kd T (q + ol) r))) tn (nI ol) (nI cl) l1 l2 tn g_parseErr (nI L) g_nVals g_outLen g_outCap g_fn g_cn b_text b_len b_stat b_errPos b_removed ty1 tA1 tB1 tN1 tM1 tC1 b_oc b_cc o' c' b_openName b_openTok b_vKind b_vNum b_vCnt b_vStr b_vItem b_vKey b_vVal b_out b_fv b_cKind b_cSlot b_cTok b_cVal b_cIdx b_dig := br_t (t3.1.mpr k5) (nm_e (nm_e (nm_e (nm_e (nm_e (nm_e (r3 post F h)))))))
    exact br_f (nI_nlt (a := 97) (by omega) (by decide)) (yl_findE0 (O := oM) hs hT hL ho3 hn hp hI.2.2.2.2.1 hf (br_t (nI_pos' (by omega)) (c5 _ (yl_findE1 (x := q + ol) (O := cM) hs hT hL hc3 hn (by omega) hI.2.2.2.2.2.1 hf2 (nI_add q ol) (br_t (nI_pos' (by omega)) (nm_r (nI_add r cl) (hcl _ (br_t t3.2.2.2 (br_f (fun y => by have := t1.1.mp y; omega) (br_f (fun y => by have := t1.2.1.mp y; omega) (br_f (fun y => by have := t1.2.2.1.mp y; omega) (br_f (fun y => by have := t1.2.2.2.mp y; omega) g381))))))))))))

theorem yz_beg (hs : s < 4) (hT : ∀ i, i < 96 → b_text (s * 96 + i) = T i) (hR : ∀ i, i < 96 → T i ≤ 126) (hL : b_len s = nI n) (hn : n ≤ 96) (hp : p ≤ n) (ho1 : 1 ≤ ol) (ho3 : ol ≤ 3) (hc1 : 1 ≤ cl) (hc3 : cl ≤ 3) (hsp : sp ≤ p) (hC : b_tCount s = nI m) (hI : cp_I s n p ol cl m ps tp st T K N E G oM cM oT b_removed b_tType b_tA b_tB b_tName b_tMatch b_oc b_cc b_openName b_openTok) (hLn : (st m).length = L) (hf : ll_fd T oM ol n (n + 1 - p) p = some q) (hf2 : ll_fd T cM cl n (n + 1 - (q + ol)) (q + ol) = some r) (hok : ll_ok T (q + ol) r) (hT32 : 32 < T q) (hX : xr_P s n q r ol cl (r + cl) (ll_kd T (q + ol) r) T K N oM cM K' N' oM' cM' ol' cl') (k6 : ll_kd T (q + ol) r = 6 ∨ ll_kd T (q + ol) r = 7) (hL2 : L < 2) : ∃ (g_ol' g_cl' g_newOl' g_newCl' g_tagName' g_parseErr' g_openCount' : Int32) (b_removed' b_tType' b_tA' b_tB' b_tName' b_tMatch' b_tCount' b_oc' b_cc' b_newO' b_newC' b_openName' b_openTok' : Nat → Int32), ∃ (m' : Nat) (ps' tp' : Nat → Nat) (st' : Nat → List Nat), b_tCount' s = nI m' ∧ (st' m').length = L + 1 ∧ fr_Y s b_removed b_tType b_tA b_tB b_tName b_tMatch b_tCount b_removed' b_tType' b_tA' b_tB' b_tName' b_tMatch' b_tCount' ∧ cp_I s n (r + cl) ol cl m' ps' tp' st' T K' N' (upd E (s * 96 + q) (nI (s * 96 + (r + cl)))) G oM cM (upd oT L (nI (s * 96 + q))) b_removed' b_tType' b_tA' b_tB' b_tName' b_tMatch' b_oc' b_cc' b_openName' b_openTok' ∧ g_ol' = nI ol ∧ g_cl' = nI cl ∧ g_openCount' = nI (L + 1) ∧ ∀ (post : Int32 → SY → Prop) (F : Nat), wY_parse_97 post (nI s) (nI n) F (nI (r + cl)) (nI (sp + 1)) g_ol' g_cl' g_newOl' g_newCl' g_tagName' g_parseErr' g_openCount' g_nVals g_outLen g_outCap g_fn g_cn b_text b_len b_stat b_errPos b_removed' b_tType' b_tA' b_tB' b_tName' b_tMatch' b_tCount' b_oc' b_cc' b_newO' b_newC' b_openName' b_openTok' b_vKind b_vNum b_vCnt b_vStr b_vItem b_vKey b_vVal b_out b_fv b_cKind b_cSlot b_cTok b_cVal b_cIdx b_dig → wY_parse_97 post (nI s) (nI n) (F + 1) (nI p) (nI sp) (nI ol) (nI cl) g_newOl g_newCl g_tagName g_parseErr (nI L) g_nVals g_outLen g_outCap g_fn g_cn b_text b_len b_stat b_errPos b_removed b_tType b_tA b_tB b_tName b_tMatch b_tCount b_oc b_cc b_newO b_newC b_openName b_openTok b_vKind b_vNum b_vCnt b_vStr b_vItem b_vKey b_vVal b_out b_fv b_cKind b_cSlot b_cTok b_cVal b_cIdx b_dig := by
  obtain ⟨f1, f2, f3⟩ := ll_fd_s _ _ _ hf
  obtain ⟨m1, ps1, tp1, st1, ty1, tA1, tB1, tN1, tM1, tC1, c1, c2, c3, c4, c5⟩ := ya_L (g_ol := nI ol) (g_cl := nI cl) (g_newOl := g_newOl) (g_newCl := g_newCl) (g_tagName := g_tagName) (g_parseErr := g_parseErr) (g_openCount := nI L) (g_nVals := g_nVals) (g_outLen := g_outLen) (g_outCap := g_outCap) (g_fn := g_fn) (g_cn := g_cn) (b_text := b_text) (b_len := b_len) (b_stat := b_stat) (b_errPos := b_errPos) (b_removed := b_removed) (b_tType := b_tType) (b_tA := b_tA) (b_tB := b_tB) (b_tName := b_tName) (b_tMatch := b_tMatch) (b_tCount := b_tCount) (b_oc := b_oc) (b_cc := b_cc) (b_newO := b_newO) (b_newC := b_newC) (b_openName := b_openName) (b_openTok := b_openTok) (b_vKind := b_vKind) (b_vNum := b_vNum) (b_vCnt := b_vCnt) (b_vStr := b_vStr) (b_vItem := b_vItem) (b_vKey := b_vKey) (b_vVal := b_vVal) (b_out := b_out) (b_fv := b_fv) (b_cKind := b_cKind) (b_cSlot := b_cSlot) (b_cTok := b_cTok) (b_cVal := b_cVal) (b_cIdx := b_cIdx) (b_dig := b_dig) hs hn f1 (by omega : q ≤ n) hC hI
  have hm1 := tk_mp c4.1
  obtain ⟨f4, f5, f6⟩ := ll_fd_s _ _ _ hf2
  have kb := ll_kd_b T (q + ol) r
  obtain ⟨o', c', l1, l2, tn, hm5, htn, hcl⟩ := yc_T (g_ol := nI ol) (g_cl := nI cl) (g_newOl := g_newOl) (g_newCl := g_newCl) (g_tagName := g_tagName) (g_parseErr := g_parseErr) (g_openCount := nI L) (g_nVals := g_nVals) (g_outLen := g_outLen) (g_outCap := g_outCap) (g_fn := g_fn) (g_cn := g_cn) (b_text := b_text) (b_len := b_len) (b_stat := b_stat) (b_errPos := b_errPos) (b_removed := b_removed) (b_tType := ty1) (b_tA := tA1) (b_tB := tB1) (b_tName := tN1) (b_tMatch := tM1) (b_tCount := tC1) (b_oc := b_oc) (b_cc := b_cc) (b_newO := b_newO) (b_newC := b_newC) (b_openName := b_openName) (b_openTok := b_openTok) (b_vKind := b_vKind) (b_vNum := b_vNum) (b_vCnt := b_vCnt) (b_vStr := b_vStr) (b_vItem := b_vItem) (b_vKey := b_vKey) (b_vVal := b_vVal) (b_out := b_out) (b_fv := b_fv) (b_cKind := b_cKind) (b_cSlot := b_cSlot) (b_cTok := b_cTok) (b_cVal := b_cVal) (b_cIdx := b_cIdx) (b_dig := b_dig) (a := q + ol) (b := r) hs hT hR (by omega) f4 hok
  rw [← nI_add q ol] at hcl
  obtain ⟨x1, x2, x3, x4, x5, x6, x7⟩ := hX
  have kt := tk_kty (ll_kd T (q + ol) r) kb.2 kb.1
  have t1 := ty_n (ll_kd T (q + ol) r) kb.2 kb.1
  have t3 := ty_n3 (ll_kd T (q + ol) r) kb.2 kb.1
  have t6 := ty_n6 (ll_kd T (q + ol) r) kb.2 kb.1
  have hxK : K' (s * 96 + q) = nI (tk_k (ll_ty (ll_kd T (q + ol) r))) := by rw [kt.1]; exact x1
  have hxN : ∀ c, c < n → c ≠ q → N' (s * 96 + c) = N (s * 96 + c) := fun c _ h => x4 _ (by omega)
  have hxx : 4 ≤ ll_ty (ll_kd T (q + ol) r) → N' (s * 96 + q) = tn ∧ (ll_ty (ll_kd T (q + ol) r) = 9 → 49 ≤ tn ∧ tn ≤ 51) ∧ (ll_ty (ll_kd T (q + ol) r) ≠ 9 → ll_nm tn) := fun h => by
    obtain ⟨a, b⟩ := t3.2.2.1.mp h
    rw [htn a b]
    have := ll_ok_nm hok a b
    exact ⟨x5 a b, fun z => this.1 (t3.2.1.mp z), fun z => this.2 (fun y => z (t3.2.1.mpr y))⟩
  have hrm : ∀ c, c < n → (ll_kd T (q + ol) r ≠ 2 ∧ ll_kd T (q + ol) r ≠ 3 ∧ rm_P T n q (r + cl) c) → T c = 32 ∨ T c = 10 := fun c _ h => rm_ch (by omega) h.2.2
  obtain ⟨R', r1, r2, r3⟩ := ya_475 (g_ol := nI ol) (g_cl := nI cl) (g_newOl := l1) (g_newCl := l2) (g_tagName := tn) (g_parseErr := g_parseErr) (g_openCount := nI (L + 1)) (g_nVals := g_nVals) (g_outLen := g_outLen) (g_outCap := g_outCap) (g_fn := g_fn) (g_cn := g_cn) (b_text := b_text) (b_len := b_len) (b_stat := b_stat) (b_errPos := b_errPos) (b_removed := b_removed) (b_tType := ty1) (b_tA := tA1) (b_tB := tB1) (b_tName := tN1) (b_tMatch := tM1) (b_tCount := tC1) (b_oc := b_oc) (b_cc := b_cc) (b_newO := o') (b_newC := c') (b_openName := upd b_openName L tn) (b_openTok := upd b_openTok L (nI m1)) (b_vKind := b_vKind) (b_vNum := b_vNum) (b_vCnt := b_vCnt) (b_vStr := b_vStr) (b_vItem := b_vItem) (b_vKey := b_vKey) (b_vVal := b_vVal) (b_out := b_out) (b_fv := b_fv) (b_cKind := b_cKind) (b_cSlot := b_cSlot) (b_cTok := b_cTok) (b_cVal := b_cVal) (b_cIdx := b_cIdx) (b_dig := b_dig) (q := q) (e := r + cl) (m := m1) (sp := sp) (k := ll_kd T (q + ol) r) (x9 := tn) hs hT hL hn (by omega) (by omega) (by omega) kb.1 kb.2 c1
  have hLe : (st1 m1).length = L := c2.trans hLn
  have ety : ll_ty (ll_kd T (q + ol) r) = ll_kd T (q + ol) r := by rcases k6 with z | z <;> rw [z] <;> rfl
  have hz := cp_beg (K' := K') (N' := N') (R' := R') c4 (e := r + cl) (k := ll_kd T (q + ol) r) (x := tn) 0 (fun c => ll_kd T (q + ol) r ≠ 2 ∧ ll_kd T (q + ol) r ≠ 3 ∧ rm_P T n q (r + cl) c) (by omega) (by omega) k6 hT32 x1 x2 r1 hrm hxN (hxx (by omega)).1 ((hxx (by omega)).2.2 (by omega)) (by omega)
  rw [hLe] at hz
  refine ⟨nI ol, nI cl, l1, l2, tn, g_parseErr, nI (L + 1), R', upd ty1 (s * 100 + m1) (nI (ll_kd T (q + ol) r)), upd tA1 (s * 100 + m1) (nI q), upd tB1 (s * 100 + m1) (nI (r + cl)), upd tN1 (s * 100 + m1) tn, upd tM1 (s * 100 + m1) 0, upd tC1 s (nI (m1 + 1)), b_oc, b_cc, o', c', upd b_openName L tn, upd b_openTok L (nI m1), m1 + 1, _, _, _, pk_us, ?_, fr_tr c3 (fr_tok (by omega) r2), hz, rfl, rfl, rfl, fun post F h => ?_⟩
  · rw [fu_s, List.length_cons, hLe]
  · have g381 : wY_parse_381 post (wY_parse_97 post (nI s) (nI n) F) (nI s) (nI n) (nI sp) (nI q) (nI (r + cl)) (nI (ll_ty (ll_kd T (q + ol) r))) tn (nI ol) (nI cl) l1 l2 tn g_parseErr (nI (L + 1)) g_nVals g_outLen g_outCap g_fn g_cn b_text b_len b_stat b_errPos b_removed ty1 tA1 tB1 tN1 tM1 tC1 b_oc b_cc o' c' (upd b_openName L tn) (upd b_openTok L (nI m1)) b_vKind b_vNum b_vCnt b_vStr b_vItem b_vKey b_vVal b_out b_fv b_cKind b_cSlot b_cTok b_cVal b_cIdx b_dig := br_f (fun y => by have := t3.1.mp y; omega) (r3 post F (by rw [ety]; exact h))
    have g228 : wY_parse_228 post (wY_parse_97 post (nI s) (nI n) F) (nI s) (nI n) (nI sp) (nI q) (nI (r + cl)) (nI (ll_ty (ll_kd T (q + ol) r))) tn (nI ol) (nI cl) l1 l2 tn g_parseErr (nI L) g_nVals g_outLen g_outCap g_fn g_cn b_text b_len b_stat b_errPos b_removed ty1 tA1 tB1 tN1 tM1 tC1 b_oc b_cc o' c' b_openName b_openTok b_vKind b_vNum b_vCnt b_vStr b_vItem b_vKey b_vVal b_out b_fv b_cKind b_cSlot b_cTok b_cVal b_cIdx b_dig := br_t (nI_lt (b := 2) hL2 (by decide)) ⟨vp_in_nI hL2 (by omega), nm_r (by rw [nI_clamp (by omega)]) ⟨vp_in_nI hs (by omega), vp_in_nI hL2 (by omega), nm_r (by rw [nI_clamp (by omega), nI_clamp (by omega), c1]) (nm_r (nI_1 _) g381)⟩⟩
    exact br_f (nI_nlt (a := 97) (by omega) (by decide)) (yl_findE0 (O := oM) hs hT hL ho3 hn hp hI.2.2.2.2.1 hf (br_t (nI_pos' (by omega)) (c5 _ (yl_findE1 (x := q + ol) (O := cM) hs hT hL hc3 hn (by omega) hI.2.2.2.2.2.1 hf2 (nI_add q ol) (br_t (nI_pos' (by omega)) (nm_r (nI_add r cl) (hcl _ (br_t t3.2.2.2 (br_c (fun y => g228) (fun y => br_t (t1.2.1.mpr (by have : ll_kd T (q + ol) r ≠ 6 := fun w => y (t1.1.mpr w); omega)) g228))))))))))

theorem yz_cls (hs : s < 4) (hT : ∀ i, i < 96 → b_text (s * 96 + i) = T i) (hR : ∀ i, i < 96 → T i ≤ 126) (hL : b_len s = nI n) (hn : n ≤ 96) (hp : p ≤ n) (ho1 : 1 ≤ ol) (ho3 : ol ≤ 3) (hc1 : 1 ≤ cl) (hc3 : cl ≤ 3) (hsp : sp ≤ p) (hC : b_tCount s = nI m) (hI : cp_I s n p ol cl m ps tp st T K N E G oM cM oT b_removed b_tType b_tA b_tB b_tName b_tMatch b_oc b_cc b_openName b_openTok) (hLn : (st m).length = L) (hf : ll_fd T oM ol n (n + 1 - p) p = some q) (hf2 : ll_fd T cM cl n (n + 1 - (q + ol)) (q + ol) = some r) (hok : ll_ok T (q + ol) r) (hT32 : 32 < T q) (hX : xr_P s n q r ol cl (r + cl) (ll_kd T (q + ol) r) T K N oM cM K' N' oM' cM' ol' cl') (k8 : ll_kd T (q + ol) r = 8) (hL0 : 0 < L) {p0 : Nat} (hp0 : p0 < 96) (hO : oT (L - 1) = nI (s * 96 + p0)) (hnm : N (s * 96 + p0) = ll_na T (q + ol) r) : ∃ (g_ol' g_cl' g_newOl' g_newCl' g_tagName' g_parseErr' g_openCount' : Int32) (b_removed' b_tType' b_tA' b_tB' b_tName' b_tMatch' b_tCount' b_oc' b_cc' b_newO' b_newC' b_openName' b_openTok' : Nat → Int32), ∃ (m' : Nat) (ps' tp' : Nat → Nat) (st' : Nat → List Nat), b_tCount' s = nI m' ∧ (st' m').length = L - 1 ∧ fr_Y s b_removed b_tType b_tA b_tB b_tName b_tMatch b_tCount b_removed' b_tType' b_tA' b_tB' b_tName' b_tMatch' b_tCount' ∧ cp_I s n (r + cl) ol cl m' ps' tp' st' T K' N' (upd E (s * 96 + q) (nI (s * 96 + (r + cl)))) (upd G (s * 96 + p0) (nI (s * 96 + (r + cl)))) oM cM oT b_removed' b_tType' b_tA' b_tB' b_tName' b_tMatch' b_oc' b_cc' b_openName' b_openTok' ∧ g_ol' = nI ol ∧ g_cl' = nI cl ∧ g_openCount' = nI (L - 1) ∧ ∀ (post : Int32 → SY → Prop) (F : Nat), wY_parse_97 post (nI s) (nI n) F (nI (r + cl)) (nI (sp + 1)) g_ol' g_cl' g_newOl' g_newCl' g_tagName' g_parseErr' g_openCount' g_nVals g_outLen g_outCap g_fn g_cn b_text b_len b_stat b_errPos b_removed' b_tType' b_tA' b_tB' b_tName' b_tMatch' b_tCount' b_oc' b_cc' b_newO' b_newC' b_openName' b_openTok' b_vKind b_vNum b_vCnt b_vStr b_vItem b_vKey b_vVal b_out b_fv b_cKind b_cSlot b_cTok b_cVal b_cIdx b_dig → wY_parse_97 post (nI s) (nI n) (F + 1) (nI p) (nI sp) (nI ol) (nI cl) g_newOl g_newCl g_tagName g_parseErr (nI L) g_nVals g_outLen g_outCap g_fn g_cn b_text b_len b_stat b_errPos b_removed b_tType b_tA b_tB b_tName b_tMatch b_tCount b_oc b_cc b_newO b_newC b_openName b_openTok b_vKind b_vNum b_vCnt b_vStr b_vItem b_vKey b_vVal b_out b_fv b_cKind b_cSlot b_cTok b_cVal b_cIdx b_dig := by
  obtain ⟨f1, f2, f3⟩ := ll_fd_s _ _ _ hf
  obtain ⟨m1, ps1, tp1, st1, ty1, tA1, tB1, tN1, tM1, tC1, c1, c2, c3, c4, c5⟩ := ya_L (g_ol := nI ol) (g_cl := nI cl) (g_newOl := g_newOl) (g_newCl := g_newCl) (g_tagName := g_tagName) (g_parseErr := g_parseErr) (g_openCount := nI L) (g_nVals := g_nVals) (g_outLen := g_outLen) (g_outCap := g_outCap) (g_fn := g_fn) (g_cn := g_cn) (b_text := b_text) (b_len := b_len) (b_stat := b_stat) (b_errPos := b_errPos) (b_removed := b_removed) (b_tType := b_tType) (b_tA := b_tA) (b_tB := b_tB) (b_tName := b_tName) (b_tMatch := b_tMatch) (b_tCount := b_tCount) (b_oc := b_oc) (b_cc := b_cc) (b_newO := b_newO) (b_newC := b_newC) (b_openName := b_openName) (b_openTok := b_openTok) (b_vKind := b_vKind) (b_vNum := b_vNum) (b_vCnt := b_vCnt) (b_vStr := b_vStr) (b_vItem := b_vItem) (b_vKey := b_vKey) (b_vVal := b_vVal) (b_out := b_out) (b_fv := b_fv) (b_cKind := b_cKind) (b_cSlot := b_cSlot) (b_cTok := b_cTok) (b_cVal := b_cVal) (b_cIdx := b_cIdx) (b_dig := b_dig) hs hn f1 (by omega : q ≤ n) hC hI
  have hm1 := tk_mp c4.1
  obtain ⟨f4, f5, f6⟩ := ll_fd_s _ _ _ hf2
  have kb := ll_kd_b T (q + ol) r
  obtain ⟨o', c', l1, l2, tn, hm5, htn, hcl⟩ := yc_T (g_ol := nI ol) (g_cl := nI cl) (g_newOl := g_newOl) (g_newCl := g_newCl) (g_tagName := g_tagName) (g_parseErr := g_parseErr) (g_openCount := nI L) (g_nVals := g_nVals) (g_outLen := g_outLen) (g_outCap := g_outCap) (g_fn := g_fn) (g_cn := g_cn) (b_text := b_text) (b_len := b_len) (b_stat := b_stat) (b_errPos := b_errPos) (b_removed := b_removed) (b_tType := ty1) (b_tA := tA1) (b_tB := tB1) (b_tName := tN1) (b_tMatch := tM1) (b_tCount := tC1) (b_oc := b_oc) (b_cc := b_cc) (b_newO := b_newO) (b_newC := b_newC) (b_openName := b_openName) (b_openTok := b_openTok) (b_vKind := b_vKind) (b_vNum := b_vNum) (b_vCnt := b_vCnt) (b_vStr := b_vStr) (b_vItem := b_vItem) (b_vKey := b_vKey) (b_vVal := b_vVal) (b_out := b_out) (b_fv := b_fv) (b_cKind := b_cKind) (b_cSlot := b_cSlot) (b_cTok := b_cTok) (b_cVal := b_cVal) (b_cIdx := b_cIdx) (b_dig := b_dig) (a := q + ol) (b := r) hs hT hR (by omega) f4 hok
  rw [← nI_add q ol] at hcl
  obtain ⟨x1, x2, x3, x4, x5, x6, x7⟩ := hX
  have kt := tk_kty (ll_kd T (q + ol) r) kb.2 kb.1
  have t1 := ty_n (ll_kd T (q + ol) r) kb.2 kb.1
  have t3 := ty_n3 (ll_kd T (q + ol) r) kb.2 kb.1
  have t6 := ty_n6 (ll_kd T (q + ol) r) kb.2 kb.1
  have hxK : K' (s * 96 + q) = nI (tk_k (ll_ty (ll_kd T (q + ol) r))) := by rw [kt.1]; exact x1
  have hxN : ∀ c, c < n → c ≠ q → N' (s * 96 + c) = N (s * 96 + c) := fun c _ h => x4 _ (by omega)
  have hxx : 4 ≤ ll_ty (ll_kd T (q + ol) r) → N' (s * 96 + q) = tn ∧ (ll_ty (ll_kd T (q + ol) r) = 9 → 49 ≤ tn ∧ tn ≤ 51) ∧ (ll_ty (ll_kd T (q + ol) r) ≠ 9 → ll_nm tn) := fun h => by
    obtain ⟨a, b⟩ := t3.2.2.1.mp h
    rw [htn a b]
    have := ll_ok_nm hok a b
    exact ⟨x5 a b, fun z => this.1 (t3.2.1.mp z), fun z => this.2 (fun y => z (t3.2.1.mpr y))⟩
  have hrm : ∀ c, c < n → (ll_kd T (q + ol) r ≠ 2 ∧ ll_kd T (q + ol) r ≠ 3 ∧ rm_P T n q (r + cl) c) → T c = 32 ∨ T c = 10 := fun c _ h => rm_ch (by omega) h.2.2
  have hLe : (st1 m1).length = L := c2.trans hLn
  have hl2 := cp_len c4
  obtain ⟨hd, hd1, hd2, hd3⟩ : ∃ h, h < m1 ∧ st1 m1 = h :: st1 h ∧ (tp1 h = 6 ∨ tp1 h = 7) := by
    rcases (c4.2.2.1.2.2.1 m1 (Nat.le_refl _)).2 with z | z
    · rw [z] at hLe
      exact absurd hLe (by simp only [List.length_nil]; omega)
    · exact z
  have hlen : (st1 hd).length = L - 1 := by
    rw [hd2, List.length_cons] at hLe
    omega
  have hO4 := c4.2.2.2.1
  rw [hd2] at hO4
  obtain ⟨o1, o2, o3, _⟩ := hO4
  rw [hlen] at o1 o2 o3
  have hpd := tk_lt c4.1 (t := hd) (t' := m1) hd1 (Nat.le_refl _)
  rw [c4.1.2.1] at hpd
  have ep : ps1 hd = p0 := by
    have := la_im (o1.symm.trans hO) (by omega) (by omega)
    omega
  rw [ep] at o3
  obtain ⟨R', r1, r2, r3⟩ := ya_475 (g_ol := nI ol) (g_cl := nI cl) (g_newOl := l1) (g_newCl := l2) (g_tagName := tn) (g_parseErr := g_parseErr) (g_openCount := nI (L - 1)) (g_nVals := g_nVals) (g_outLen := g_outLen) (g_outCap := g_outCap) (g_fn := g_fn) (g_cn := g_cn) (b_text := b_text) (b_len := b_len) (b_stat := b_stat) (b_errPos := b_errPos) (b_removed := b_removed) (b_tType := ty1) (b_tA := tA1) (b_tB := tB1) (b_tName := tN1) (b_tMatch := upd tM1 (s * 100 + hd) (nI m1)) (b_tCount := tC1) (b_oc := b_oc) (b_cc := b_cc) (b_newO := o') (b_newC := c') (b_openName := b_openName) (b_openTok := b_openTok) (b_vKind := b_vKind) (b_vNum := b_vNum) (b_vCnt := b_vCnt) (b_vStr := b_vStr) (b_vItem := b_vItem) (b_vKey := b_vKey) (b_vVal := b_vVal) (b_out := b_out) (b_fv := b_fv) (b_cKind := b_cKind) (b_cSlot := b_cSlot) (b_cTok := b_cTok) (b_cVal := b_cVal) (b_cIdx := b_cIdx) (b_dig := b_dig) (q := q) (e := r + cl) (m := m1) (sp := sp) (k := ll_kd T (q + ol) r) (x9 := tn) hs hT hL hn (by omega) (by omega) (by omega) kb.1 kb.2 c1
  have ety : ll_ty (ll_kd T (q + ol) r) = 8 := t6.2.2.mpr k8
  have hz := cp_end (K' := K') (N' := N') (R' := R') c4 (e := r + cl) (hd := hd) (x := tn) 0 (fun c => ll_kd T (q + ol) r ≠ 2 ∧ ll_kd T (q + ol) r ≠ 3 ∧ rm_P T n q (r + cl) c) (by omega) (by omega) hT32 (by rw [x1, k8]) x2 r1 hrm hxN (hxx (by omega)).1 ((hxx (by omega)).2.2 (by omega)) hd1 hd2
  rw [ep] at hz
  refine ⟨nI ol, nI cl, l1, l2, tn, g_parseErr, nI (L - 1), R', upd ty1 (s * 100 + m1) (nI 8), upd tA1 (s * 100 + m1) (nI q), upd tB1 (s * 100 + m1) (nI (r + cl)), upd tN1 (s * 100 + m1) tn, upd (upd tM1 (s * 100 + hd) (nI m1)) (s * 100 + m1) 0, upd tC1 s (nI (m1 + 1)), b_oc, b_cc, o', c', b_openName, b_openTok, m1 + 1, _, _, _, pk_us, ?_, fr_tr c3 (fr_tr (fr_mt (by omega)) (fr_tok (by omega) r2)), hz, rfl, rfl, rfl, fun post F h => ?_⟩
  · rw [fu_s, hlen]
  · have r3' := r3 post F (by rw [ety]; exact h)
    have g381 : wY_parse_381 post (wY_parse_97 post (nI s) (nI n) F) (nI s) (nI n) (nI sp) (nI q) (nI (r + cl)) (nI (ll_ty (ll_kd T (q + ol) r))) tn (nI ol) (nI cl) l1 l2 tn g_parseErr (nI (L - 1)) g_nVals g_outLen g_outCap g_fn g_cn b_text b_len b_stat b_errPos b_removed ty1 tA1 tB1 tN1 (upd tM1 (s * 100 + hd) (nI m1)) tC1 b_oc b_cc o' c' b_openName b_openTok b_vKind b_vNum b_vCnt b_vStr b_vItem b_vKey b_vVal b_out b_fv b_cKind b_cSlot b_cTok b_cVal b_cIdx b_dig := br_f (fun y => by have := t3.1.mp y; omega) r3'
    have e1 : b_openTok (nI (L - 1)).toNatClampNeg = nI hd := by rw [nI_clamp (by omega)]; exact o2
    have e2 : nI s * 100 + b_openTok (nI (L - 1)).toNatClampNeg = nI (s * 100 + hd) := by rw [e1, la_m100, nI_add]
    exact br_f (nI_nlt (a := 97) (by omega) (by decide)) (yl_findE0 (O := oM) hs hT hL ho3 hn hp hI.2.2.2.2.1 hf (br_t (nI_pos' (by omega)) (c5 _ (yl_findE1 (x := q + ol) (O := cM) hs hT hL hc3 hn (by omega) hI.2.2.2.2.2.1 hf2 (nI_add q ol) (br_t (nI_pos' (by omega)) (nm_r (nI_add r cl) (hcl _ (br_t t3.2.2.2 (br_f (fun y => by have := t1.1.mp y; omega) (br_f (fun y => by have := t1.2.1.mp y; omega) (br_t (t1.2.2.1.mpr k8) (br_f (nI_ne0 hL0 (by omega)) ⟨by rw [la_s hL0]; exact vp_in_nI (by omega) (by omega), br_t (by rw [la_s hL0, nI_clamp (by omega), htn (by omega) (by omega), o3]; exact hnm) (nm_r (la_s hL0) ⟨vp_in_nI (by omega) (by omega), vp_in_nI hs (by omega), by rw [e2]; exact vp_in_nI (by omega) (by omega), nm_r (e' := upd tM1 (s * 100 + hd) (nI m1)) (by rw [e2, nI_clamp (by omega), nI_clamp (by omega), c1]) g381⟩)⟩))))))))))))

end LLYW
end
section
section LLCL
variable {f_openMarkLength f_closeMarkLength f_openCount f_compileFrom f_compileTo f_valueCount f_outCap f_outCount f_frameCount f_valueTextLength f_renderAt f_renderTo f_returnAt f_finished f_overflowed : Int32} {a_text a_cellKind a_cellName a_tagEnd a_sectionEnd a_textLength a_slotStatus a_slotError a_openMark a_closeMark a_openTags a_valueKind a_amount a_parts a_fieldValues a_out a_frameValue a_frameList a_frameNext a_frameBody a_valueText : Nat → Int32}

def cl_C (s n : Nat) (T : Nat → Int32) (f_openMarkLength f_closeMarkLength f_openCount f_compileFrom f_compileTo f_valueCount f_outCap f_outCount f_frameCount f_valueTextLength f_renderAt f_renderTo f_returnAt f_finished f_overflowed : Int32) (a_text a_cellKind a_cellName a_tagEnd a_sectionEnd a_textLength a_slotStatus a_slotError a_openMark a_closeMark a_openTags a_valueKind a_amount a_parts a_fieldValues a_out a_frameValue a_frameList a_frameNext a_frameBody a_valueText : Nat → Int32) (F p ol cl L tg : Nat) (K N E G oM cM oT : Nat → Int32) : Prop := ∃ (r pe f1 f2 f3 : Int32) (K' N' E' G' oM' cM' oT' : Nat → Int32),
  (∀ j, j < s * 96 ∨ s * 96 + 96 ≤ j → K' j = K j ∧ N' j = N j ∧ E' j = E j ∧ G' j = G j) ∧ (r = 0 → pe = -1) ∧
  (∀ post : Int32 → SX → Prop, post r (f1, f2, f3, nI (s * 96), nI (s * 96 + n), f_valueCount, f_outCap, f_outCount, f_frameCount, f_valueTextLength, f_renderAt, f_renderTo, f_returnAt, f_finished, f_overflowed, a_text, K', N', E', G', a_textLength, upd a_slotStatus s r, upd a_slotError s pe, oM', cM', oT', a_valueKind, a_amount, a_parts, a_fieldValues, a_out, a_frameValue, a_frameList, a_frameNext, a_frameBody, a_valueText) → wX_compile_25 post (nI s) F 0 (nI (s * 96 + p)) (nI tg) (nI ol) (nI cl) (nI L) (nI (s * 96)) (nI (s * 96 + n)) f_valueCount f_outCap f_outCount f_frameCount f_valueTextLength f_renderAt f_renderTo f_returnAt f_finished f_overflowed a_text K N E G a_textLength a_slotStatus a_slotError oM cM oT a_valueKind a_amount a_parts a_fieldValues a_out a_frameValue a_frameList a_frameNext a_frameBody a_valueText) ∧
  (∀ (g_ol g_cl g_newOl g_newCl g_tagName g_parseErr g_openCount g_nVals g_outLen g_outCap g_fn g_cn : Int32) (b_text b_len b_stat b_errPos b_removed b_tType b_tA b_tB b_tName b_tMatch b_tCount b_oc b_cc b_newO b_newC b_openName b_openTok b_vKind b_vNum b_vCnt b_vStr b_vItem b_vKey b_vVal b_out b_fv b_cKind b_cSlot b_cTok b_cVal b_cIdx b_dig : Nat → Int32) (m : Nat) (ps tp : Nat → Nat) (st : Nat → List Nat) (sp : Nat), (∀ i, i < 96 → b_text (s * 96 + i) = T i) → b_len s = nI n → b_tCount s = nI m → cp_I s n p ol cl m ps tp st T K N E G oM cM oT b_removed b_tType b_tA b_tB b_tName b_tMatch b_oc b_cc b_openName b_openTok → (st m).length = L → sp ≤ p → ∃ (g_ol' g_cl' g_newOl' g_newCl' g_tagName' g_parseErr' g_openCount' : Int32) (b_removed' b_tType' b_tA' b_tB' b_tName' b_tMatch' b_tCount' b_oc' b_cc' b_newO' b_newC' b_openName' b_openTok' : Nat → Int32), fr_Y s b_removed b_tType b_tA b_tB b_tName b_tMatch b_tCount b_removed' b_tType' b_tA' b_tB' b_tName' b_tMatch' b_tCount' ∧ (¬ r = 0 → g_parseErr' = pe) ∧ (r = 0 → ∃ (m' : Nat) (ps' tp' : Nat → Nat) (st' : Nat → List Nat), b_tCount' s = nI m' ∧ tk_F s n T K' N' E' G' b_removed' b_tType' b_tA' b_tB' b_tName' b_tMatch' m' ps' tp' st') ∧ ∀ post : Int32 → SY → Prop, post r (g_ol', g_cl', g_newOl', g_newCl', g_tagName', g_parseErr', g_openCount', g_nVals, g_outLen, g_outCap, g_fn, g_cn, b_text, b_len, b_stat, b_errPos, b_removed', b_tType', b_tA', b_tB', b_tName', b_tMatch', b_tCount', b_oc', b_cc', b_newO', b_newC', b_openName', b_openTok', b_vKind, b_vNum, b_vCnt, b_vStr, b_vItem, b_vKey, b_vVal, b_out, b_fv, b_cKind, b_cSlot, b_cTok, b_cVal, b_cIdx, b_dig) → wY_parse_97 post (nI s) (nI n) F (nI p) (nI sp) (nI ol) (nI cl) g_newOl g_newCl g_tagName g_parseErr (nI L) g_nVals g_outLen g_outCap g_fn g_cn b_text b_len b_stat b_errPos b_removed b_tType b_tA b_tB b_tName b_tMatch b_tCount b_oc b_cc b_newO b_newC b_openName b_openTok b_vKind b_vNum b_vCnt b_vStr b_vItem b_vKey b_vVal b_out b_fv b_cKind b_cSlot b_cTok b_cVal b_cIdx b_dig)

section TXT
variable {s n F p ol cl L tg : Nat} {T K N E G oM cM oT : Nat → Int32}

theorem cl_go {p1 ol1 cl1 L1 : Nat} {K1 N1 E1 G1 oM1 cM1 oT1 : Nat → Int32} (hp1 : p < p1)
    (hfr : ∀ j, j < s * 96 ∨ s * 96 + 96 ≤ j → K1 j = K j ∧ N1 j = N j ∧ E1 j = E j ∧ G1 j = G j)
    (hx : ∀ post : Int32 → SX → Prop, wX_compile_25 post (nI s) F 0 (nI (s * 96 + p1)) (nI (tg + 1)) (nI ol1) (nI cl1) (nI L1) (nI (s * 96)) (nI (s * 96 + n)) f_valueCount f_outCap f_outCount f_frameCount f_valueTextLength f_renderAt f_renderTo f_returnAt f_finished f_overflowed a_text K1 N1 E1 G1 a_textLength a_slotStatus a_slotError oM1 cM1 oT1 a_valueKind a_amount a_parts a_fieldValues a_out a_frameValue a_frameList a_frameNext a_frameBody a_valueText → wX_compile_25 post (nI s) (F + 1) 0 (nI (s * 96 + p)) (nI tg) (nI ol) (nI cl) (nI L) (nI (s * 96)) (nI (s * 96 + n)) f_valueCount f_outCap f_outCount f_frameCount f_valueTextLength f_renderAt f_renderTo f_returnAt f_finished f_overflowed a_text K N E G a_textLength a_slotStatus a_slotError oM cM oT a_valueKind a_amount a_parts a_fieldValues a_out a_frameValue a_frameList a_frameNext a_frameBody a_valueText)
    (hy : ∀ (g_ol g_cl g_newOl g_newCl g_tagName g_parseErr g_openCount g_nVals g_outLen g_outCap g_fn g_cn : Int32) (b_text b_len b_stat b_errPos b_removed b_tType b_tA b_tB b_tName b_tMatch b_tCount b_oc b_cc b_newO b_newC b_openName b_openTok b_vKind b_vNum b_vCnt b_vStr b_vItem b_vKey b_vVal b_out b_fv b_cKind b_cSlot b_cTok b_cVal b_cIdx b_dig : Nat → Int32) (m : Nat) (ps tp : Nat → Nat) (st : Nat → List Nat) (sp : Nat), (∀ i, i < 96 → b_text (s * 96 + i) = T i) → b_len s = nI n → b_tCount s = nI m → cp_I s n p ol cl m ps tp st T K N E G oM cM oT b_removed b_tType b_tA b_tB b_tName b_tMatch b_oc b_cc b_openName b_openTok → (st m).length = L → sp ≤ p → ∃ (g_ol' g_cl' g_newOl' g_newCl' g_tagName' g_parseErr' g_openCount' : Int32) (b_removed' b_tType' b_tA' b_tB' b_tName' b_tMatch' b_tCount' b_oc' b_cc' b_newO' b_newC' b_openName' b_openTok' : Nat → Int32), ∃ (m' : Nat) (ps' tp' : Nat → Nat) (st' : Nat → List Nat), b_tCount' s = nI m' ∧ (st' m').length = L1 ∧ fr_Y s b_removed b_tType b_tA b_tB b_tName b_tMatch b_tCount b_removed' b_tType' b_tA' b_tB' b_tName' b_tMatch' b_tCount' ∧ cp_I s n p1 ol1 cl1 m' ps' tp' st' T K1 N1 E1 G1 oM1 cM1 oT1 b_removed' b_tType' b_tA' b_tB' b_tName' b_tMatch' b_oc' b_cc' b_openName' b_openTok' ∧ g_ol' = nI ol1 ∧ g_cl' = nI cl1 ∧ g_openCount' = nI L1 ∧ ∀ (post : Int32 → SY → Prop) (F : Nat), wY_parse_97 post (nI s) (nI n) F (nI p1) (nI (sp + 1)) g_ol' g_cl' g_newOl' g_newCl' g_tagName' g_parseErr' g_openCount' g_nVals g_outLen g_outCap g_fn g_cn b_text b_len b_stat b_errPos b_removed' b_tType' b_tA' b_tB' b_tName' b_tMatch' b_tCount' b_oc' b_cc' b_newO' b_newC' b_openName' b_openTok' b_vKind b_vNum b_vCnt b_vStr b_vItem b_vKey b_vVal b_out b_fv b_cKind b_cSlot b_cTok b_cVal b_cIdx b_dig → wY_parse_97 post (nI s) (nI n) (F + 1) (nI p) (nI sp) (nI ol) (nI cl) g_newOl g_newCl g_tagName g_parseErr (nI L) g_nVals g_outLen g_outCap g_fn g_cn b_text b_len b_stat b_errPos b_removed b_tType b_tA b_tB b_tName b_tMatch b_tCount b_oc b_cc b_newO b_newC b_openName b_openTok b_vKind b_vNum b_vCnt b_vStr b_vItem b_vKey b_vVal b_out b_fv b_cKind b_cSlot b_cTok b_cVal b_cIdx b_dig)
    (ih : cl_C s n T f_openMarkLength f_closeMarkLength f_openCount f_compileFrom f_compileTo f_valueCount f_outCap f_outCount f_frameCount f_valueTextLength f_renderAt f_renderTo f_returnAt f_finished f_overflowed a_text a_cellKind a_cellName a_tagEnd a_sectionEnd a_textLength a_slotStatus a_slotError a_openMark a_closeMark a_openTags a_valueKind a_amount a_parts a_fieldValues a_out a_frameValue a_frameList a_frameNext a_frameBody a_valueText F p1 ol1 cl1 L1 (tg + 1) K1 N1 E1 G1 oM1 cM1 oT1) : cl_C s n T f_openMarkLength f_closeMarkLength f_openCount f_compileFrom f_compileTo f_valueCount f_outCap f_outCount f_frameCount f_valueTextLength f_renderAt f_renderTo f_returnAt f_finished f_overflowed a_text a_cellKind a_cellName a_tagEnd a_sectionEnd a_textLength a_slotStatus a_slotError a_openMark a_closeMark a_openTags a_valueKind a_amount a_parts a_fieldValues a_out a_frameValue a_frameList a_frameNext a_frameBody a_valueText (F + 1) p ol cl L tg K N E G oM cM oT := by
  obtain ⟨r, pe, f1, f2, f3, K', N', E', G', oM', cM', oT', i1, i2, i3, i4⟩ := ih
  refine ⟨r, pe, f1, f2, f3, K', N', E', G', oM', cM', oT', fun j hj => ?_, i2, fun post h => hx post (i3 post h), ?_⟩
  · obtain ⟨a1, a2, a3, a4⟩ := i1 j hj
    obtain ⟨b1, b2, b3, b4⟩ := hfr j hj
    exact ⟨a1.trans b1, a2.trans b2, a3.trans b3, a4.trans b4⟩
  · intro g_ol g_cl g_newOl g_newCl g_tagName g_parseErr g_openCount g_nVals g_outLen g_outCap g_fn g_cn b_text b_len b_stat b_errPos b_removed b_tType b_tA b_tB b_tName b_tMatch b_tCount b_oc b_cc b_newO b_newC b_openName b_openTok b_vKind b_vNum b_vCnt b_vStr b_vItem b_vKey b_vVal b_out b_fv b_cKind b_cSlot b_cTok b_cVal b_cIdx b_dig m ps tp st sp y1 y2 y3 y4 y5 y6
    obtain ⟨g_ol', g_cl', g_newOl', g_newCl', g_tagName', g_parseErr', g_openCount', b_removed', b_tType', b_tA', b_tB', b_tName', b_tMatch', b_tCount', b_oc', b_cc', b_newO', b_newC', b_openName', b_openTok', m', ps', tp', st', z1, z2, z3, z4, z5, z6, z7, z8⟩ := hy g_ol g_cl g_newOl g_newCl g_tagName g_parseErr g_openCount g_nVals g_outLen g_outCap g_fn g_cn b_text b_len b_stat b_errPos b_removed b_tType b_tA b_tB b_tName b_tMatch b_tCount b_oc b_cc b_newO b_newC b_openName b_openTok b_vKind b_vNum b_vCnt b_vStr b_vItem b_vKey b_vVal b_out b_fv b_cKind b_cSlot b_cTok b_cVal b_cIdx b_dig m ps tp st sp y1 y2 y3 y4 y5 y6
    subst z5 z6 z7
    obtain ⟨g_ol2, g_cl2, g_newOl2, g_newCl2, g_tagName2, g_parseErr2, g_openCount2, b_removed2, b_tType2, b_tA2, b_tB2, b_tName2, b_tMatch2, b_tCount2, b_oc2, b_cc2, b_newO2, b_newC2, b_openName2, b_openTok2, w1, w2, w3, w4⟩ := i4 (nI ol1) (nI cl1) g_newOl' g_newCl' g_tagName' g_parseErr' (nI L1) g_nVals g_outLen g_outCap g_fn g_cn b_text b_len b_stat b_errPos b_removed' b_tType' b_tA' b_tB' b_tName' b_tMatch' b_tCount' b_oc' b_cc' b_newO' b_newC' b_openName' b_openTok' b_vKind b_vNum b_vCnt b_vStr b_vItem b_vKey b_vVal b_out b_fv b_cKind b_cSlot b_cTok b_cVal b_cIdx b_dig m' ps' tp' st' (sp + 1) y1 y2 z1 z4 z2 (by omega)
    exact ⟨g_ol2, g_cl2, g_newOl2, g_newCl2, g_tagName2, g_parseErr2, g_openCount2, b_removed2, b_tType2, b_tA2, b_tB2, b_tName2, b_tMatch2, b_tCount2, b_oc2, b_cc2, b_newO2, b_newC2, b_openName2, b_openTok2, fr_tr z3 w1, w2, w3, fun post h => z8 post F (w4 post h)⟩

theorem cx_107 {post : Int32 → SX → Prop} {r x3 pe : Int32} (hs : s < 4) (hpe : ¬ r = 0 → x3 - nI (s * 96) = pe) (hp0 : r = 0 → pe = -1) (h : post r (f_openMarkLength, f_closeMarkLength, f_openCount, nI (s * 96), f_compileTo, f_valueCount, f_outCap, f_outCount, f_frameCount, f_valueTextLength, f_renderAt, f_renderTo, f_returnAt, f_finished, f_overflowed, a_text, a_cellKind, a_cellName, a_tagEnd, a_sectionEnd, a_textLength, upd a_slotStatus s r, upd a_slotError s pe, a_openMark, a_closeMark, a_openTags, a_valueKind, a_amount, a_parts, a_fieldValues, a_out, a_frameValue, a_frameList, a_frameNext, a_frameBody, a_valueText)) : wX_compile_107 post (nI s) r x3 f_openMarkLength f_closeMarkLength f_openCount (nI (s * 96)) f_compileTo f_valueCount f_outCap f_outCount f_frameCount f_valueTextLength f_renderAt f_renderTo f_returnAt f_finished f_overflowed a_text a_cellKind a_cellName a_tagEnd a_sectionEnd a_textLength a_slotStatus a_slotError a_openMark a_closeMark a_openTags a_valueKind a_amount a_parts a_fieldValues a_out a_frameValue a_frameList a_frameNext a_frameBody a_valueText := by
  have e : (nI s).toNatClampNeg = s := nI_clamp (by omega)
  refine ⟨vp_in_nI hs (by omega), nm_r (by rw [e]) ⟨fun z => ⟨vp_in_nI hs (by omega), nm_r (by rw [e, ← hp0 z]) h⟩, fun z => ⟨vp_in_nI hs (by omega), nm_r (by rw [e, hpe z]) h⟩⟩⟩
theorem cx_err {post : Int32 → SX → Prop} {r : Int32} {q : Nat} (hs : s < 4) (hr : ¬ r = 0) (h : post r (f_openMarkLength, f_closeMarkLength, f_openCount, nI (s * 96), f_compileTo, f_valueCount, f_outCap, f_outCount, f_frameCount, f_valueTextLength, f_renderAt, f_renderTo, f_returnAt, f_finished, f_overflowed, a_text, a_cellKind, a_cellName, a_tagEnd, a_sectionEnd, a_textLength, upd a_slotStatus s r, upd a_slotError s (nI q), a_openMark, a_closeMark, a_openTags, a_valueKind, a_amount, a_parts, a_fieldValues, a_out, a_frameValue, a_frameList, a_frameNext, a_frameBody, a_valueText)) : wX_compile_88 post (nI s) r (nI (s * 96 + q)) f_openMarkLength f_closeMarkLength f_openCount (nI (s * 96)) f_compileTo f_valueCount f_outCap f_outCount f_frameCount f_valueTextLength f_renderAt f_renderTo f_returnAt f_finished f_overflowed a_text a_cellKind a_cellName a_tagEnd a_sectionEnd a_textLength a_slotStatus a_slotError a_openMark a_closeMark a_openTags a_valueKind a_amount a_parts a_fieldValues a_out a_frameValue a_frameList a_frameNext a_frameBody a_valueText :=
  br_f hr (cx_107 hs (fun _ => by rw [pk_sub (by omega)]; exact congrArg nI (by omega)) (fun z => absurd z hr) h)

end TXT
end LLCL
end
section
section LLTOP
/-- the name of the last begun section, as Y keeps it -/
theorem cp_top {s n p ol cl m L0 p0 : Nat} {ps tp : Nat → Nat} {st : Nat → List Nat} {T K N E G oM cM oT R ty tA tB tN tM oc cc oN oK : Nat → Int32} (h : cp_I s n p ol cl m ps tp st T K N E G oM cM oT R ty tA tB tN tM oc cc oN oK) (hs : s < 4) (hp : p ≤ 96) (hp0 : p0 < 96) (hL : (st m).length = L0 + 1) (hO : oT L0 = nI (s * 96 + p0)) : oN L0 = N (s * 96 + p0) := by
  have h4 := h.2.2.2.1
  have hb := tk_sb h.2.2.1 m m (Nat.le_refl _) (Nat.le_refl _)
  cases hst : st m with
  | nil => rw [hst] at hL; exact absurd hL (by simp)
  | cons a l =>
    rw [hst] at h4 hL hb
    obtain ⟨o1, o2, o3, _⟩ := h4
    have e : l.length = L0 := by simpa using hL
    have ha := hb a (List.mem_cons.mpr (Or.inl rfl))
    have hpa := tk_lt h.1 (t := a) (t' := m) ha (Nat.le_refl _)
    rw [h.1.2.1] at hpa
    rw [e] at o1 o3
    have := la_im (o1.symm.trans hO) (by omega) (by omega)
    rw [o3, this]
end LLTOP
section LLMN
variable {f_openMarkLength f_closeMarkLength f_openCount f_compileFrom f_compileTo f_valueCount f_outCap f_outCount f_frameCount f_valueTextLength f_renderAt f_renderTo f_returnAt f_finished f_overflowed : Int32} {a_text a_cellKind a_cellName a_tagEnd a_sectionEnd a_textLength a_slotStatus a_slotError a_openMark a_closeMark a_openTags a_valueKind a_amount a_parts a_fieldValues a_out a_frameValue a_frameList a_frameNext a_frameBody a_valueText : Nat → Int32}
variable {s n : Nat} {T : Nat → Int32}
theorem cl_main (hs : s < 4) (hn : n ≤ 96) (hT : ∀ i, i < 96 → a_text (s * 96 + i) = T i) (hR : ∀ i, i < 96 → T i ≤ 126) : ∀ (F p ol cl L tg : Nat) (K N E G oM cM oT : Nat → Int32), n < p + F → p ≤ n → 1 ≤ ol → ol ≤ 3 → 1 ≤ cl → cl ≤ 3 → (∀ i, i < ol → 32 < oM i) → tg ≤ p → L ≤ 2 → (∀ i, i < L → ∃ p0, p0 < p ∧ oT i = nI (s * 96 + p0)) → cl_C s n T f_openMarkLength f_closeMarkLength f_openCount f_compileFrom f_compileTo f_valueCount f_outCap f_outCount f_frameCount f_valueTextLength f_renderAt f_renderTo f_returnAt f_finished f_overflowed a_text a_cellKind a_cellName a_tagEnd a_sectionEnd a_textLength a_slotStatus a_slotError a_openMark a_closeMark a_openTags a_valueKind a_amount a_parts a_fieldValues a_out a_frameValue a_frameList a_frameNext a_frameBody a_valueText F p ol cl L tg K N E G oM cM oT := by
  intro F
  induction F with
  | zero => intro p ol cl L tg K N E G oM cM oT h1 h2; omega
  | succ F ih =>
    intro p ol cl L tg K N E G oM cM oT hF hp ho1 ho3 hc1 hc3 hoM htg hL2 hoT
    cases hf : ll_fd T oM ol n (n + 1 - p) p with
    | none =>
      by_cases hL0 : L = 0
      · refine ⟨0, -1, nI ol, nI cl, nI L, K, N, E, G, oM, cM, oT, fun j hj => ⟨rfl, rfl, rfl, rfl⟩, fun _ => rfl, fun post h => ?_, ?_⟩
        · have h88 : wX_compile_88 post (nI s) 0 (nI (s * 96 + p)) (nI ol) (nI cl) (nI L) (nI (s * 96)) (nI (s * 96 + n)) f_valueCount f_outCap f_outCount f_frameCount f_valueTextLength f_renderAt f_renderTo f_returnAt f_finished f_overflowed a_text K N E G a_textLength a_slotStatus a_slotError oM cM oT a_valueKind a_amount a_parts a_fieldValues a_out a_frameValue a_frameList a_frameNext a_frameBody a_valueText := br_t rfl (br_t (by rw [hL0]; decide) (cx_107 hs (fun z => absurd rfl z) (fun _ => rfl) h))
          exact br_c (fun _ => h88) (fun _ => xl_findE_openMark (x := p) hs hT ho3 hn hp hf rfl (br_t rfl h88))
        · intro g_ol g_cl g_newOl g_newCl g_tagName g_parseErr g_openCount g_nVals g_outLen g_outCap g_fn g_cn b_text b_len b_stat b_errPos b_removed b_tType b_tA b_tB b_tName b_tMatch b_tCount b_oc b_cc b_newO b_newC b_openName b_openTok b_vKind b_vNum b_vCnt b_vStr b_vItem b_vKey b_vVal b_out b_fv b_cKind b_cSlot b_cTok b_cVal b_cIdx b_dig m ps tp st sp y1 y2 y3 y4 y5 y6
          obtain ⟨g_ol', g_cl', g_newOl', g_newCl', g_tagName', g_parseErr', g_openCount', b_removed', b_tType', b_tA', b_tB', b_tName', b_tMatch', b_tCount', b_oc', b_cc', b_newO', b_newC', b_openName', b_openTok', w1, w2, w3, w4⟩ := yz_endT hs y1 hR y2 hn hp ho1 ho3 hc1 hc3 y6 y3 y4 y5 hL0 hf
          exact ⟨g_ol', g_cl', g_newOl', g_newCl', g_tagName', g_parseErr', g_openCount', b_removed', b_tType', b_tA', b_tB', b_tName', b_tMatch', b_tCount', b_oc', b_cc', b_newO', b_newC', b_openName', b_openTok', w1, fun z => absurd rfl z, fun _ => w3, fun post h => w4 post F h⟩
      · refine ⟨-5, nI n, nI ol, nI cl, nI L, K, N, E, G, oM, cM, oT, fun j hj => ⟨rfl, rfl, rfl, rfl⟩, fun z => absurd z (by decide), fun post h => ?_, ?_⟩
        · have h88 : wX_compile_88 post (nI s) 0 (nI (s * 96 + p)) (nI ol) (nI cl) (nI L) (nI (s * 96)) (nI (s * 96 + n)) f_valueCount f_outCap f_outCount f_frameCount f_valueTextLength f_renderAt f_renderTo f_returnAt f_finished f_overflowed a_text K N E G a_textLength a_slotStatus a_slotError oM cM oT a_valueKind a_amount a_parts a_fieldValues a_out a_frameValue a_frameList a_frameNext a_frameBody a_valueText := br_t rfl (br_f (nI_nle (by omega) (by omega)) (cx_107 hs (fun _ => by rw [pk_sub (by omega)]; exact congrArg nI (by omega)) (fun z => absurd z (by decide)) h))
          exact br_c (fun _ => h88) (fun _ => xl_findE_openMark (x := p) hs hT ho3 hn hp hf rfl (br_t rfl h88))
        · intro g_ol g_cl g_newOl g_newCl g_tagName g_parseErr g_openCount g_nVals g_outLen g_outCap g_fn g_cn b_text b_len b_stat b_errPos b_removed b_tType b_tA b_tB b_tName b_tMatch b_tCount b_oc b_cc b_newO b_newC b_openName b_openTok b_vKind b_vNum b_vCnt b_vStr b_vItem b_vKey b_vVal b_out b_fv b_cKind b_cSlot b_cTok b_cVal b_cIdx b_dig m ps tp st sp y1 y2 y3 y4 y5 y6
          obtain ⟨g_ol', g_cl', g_newOl', g_newCl', g_tagName', g_parseErr', g_openCount', b_removed', b_tType', b_tA', b_tB', b_tName', b_tMatch', b_tCount', b_oc', b_cc', b_newO', b_newC', b_openName', b_openTok', w1, w2, w3⟩ := yz_endF hs y1 hR y2 hn hp ho1 ho3 hc1 hc3 y6 y3 y4 y5 (by omega) hf
          exact ⟨g_ol', g_cl', g_newOl', g_newCl', g_tagName', g_parseErr', g_openCount', b_removed', b_tType', b_tA', b_tB', b_tName', b_tMatch', b_tCount', b_oc', b_cc', b_newO', b_newC', b_openName', b_openTok', w1, fun _ => w2, fun z => absurd z (by decide), fun post h => w3 post F h⟩
    | some q =>
      obtain ⟨q1, q2, q3⟩ := ll_fd_s _ _ _ hf
      have hT32 : 32 < T q := by
        have h0 := hoM 0 (by omega)
        obtain ⟨o, ho⟩ : ∃ o, ol = o + 1 := ⟨ol - 1, by omega⟩
        rw [ho] at q3
        rw [ll_oc_hd q3]
        exact h0
      cases hf2 : ll_fd T cM cl n (n + 1 - (q + ol)) (q + ol) with
      | none =>
        refine ⟨-3, nI q, nI ol, nI cl, nI L, K, N, E, G, oM, cM, oT, fun j hj => ⟨rfl, rfl, rfl, rfl⟩, fun z => absurd z (by decide), fun post h => ?_, ?_⟩
        · exact br_f (nI_ge (b := 96) (by omega) (by decide)) (xl_findE_openMark (x := p) hs hT ho3 hn hp hf rfl (br_f (la_n1 (by omega)) (xr_A hs hT hn q2 hc3 hf2 (br_f (by decide) (cx_err hs (by decide) h)))))
        · intro g_ol g_cl g_newOl g_newCl g_tagName g_parseErr g_openCount g_nVals g_outLen g_outCap g_fn g_cn b_text b_len b_stat b_errPos b_removed b_tType b_tA b_tB b_tName b_tMatch b_tCount b_oc b_cc b_newO b_newC b_openName b_openTok b_vKind b_vNum b_vCnt b_vStr b_vItem b_vKey b_vVal b_out b_fv b_cKind b_cSlot b_cTok b_cVal b_cIdx b_dig m ps tp st sp y1 y2 y3 y4 y5 y6
          obtain ⟨g_ol', g_cl', g_newOl', g_newCl', g_tagName', g_parseErr', g_openCount', b_removed', b_tType', b_tA', b_tB', b_tName', b_tMatch', b_tCount', b_oc', b_cc', b_newO', b_newC', b_openName', b_openTok', w1, w2, w3⟩ := yz_A hs y1 hR y2 hn hp ho1 ho3 hc1 hc3 y6 y3 y4 y5 hf hf2
          exact ⟨g_ol', g_cl', g_newOl', g_newCl', g_tagName', g_parseErr', g_openCount', b_removed', b_tType', b_tA', b_tB', b_tName', b_tMatch', b_tCount', b_oc', b_cc', b_newO', b_newC', b_openName', b_openTok', w1, fun _ => w2, fun z => absurd z (by decide), fun post h => w3 post F h⟩
      | some r =>
        obtain ⟨r1, r2, r3⟩ := ll_fd_s _ _ _ hf2
        have kb := ll_kd_b T (q + ol) r
        by_cases hok : ll_ok T (q + ol) r
        · obtain ⟨K', N', oM', cM', ol', cl', hP, hgo⟩ := xr_C (f_openCount := nI L) (f_valueCount := f_valueCount) (f_outCap := f_outCap) (f_outCount := f_outCount) (f_frameCount := f_frameCount) (f_valueTextLength := f_valueTextLength) (f_renderAt := f_renderAt) (f_renderTo := f_renderTo) (f_returnAt := f_returnAt) (f_finished := f_finished) (f_overflowed := f_overflowed) (a_text := a_text) (a_cellKind := K) (a_cellName := N) (a_tagEnd := E) (a_sectionEnd := G) (a_textLength := a_textLength) (a_slotStatus := a_slotStatus) (a_slotError := a_slotError) (a_openMark := oM) (a_closeMark := cM) (a_openTags := oT) (a_valueKind := a_valueKind) (a_amount := a_amount) (a_parts := a_parts) (a_fieldValues := a_fieldValues) (a_out := a_out) (a_frameValue := a_frameValue) (a_frameList := a_frameList) (a_frameNext := a_frameNext) (a_frameBody := a_frameBody) (a_valueText := a_valueText) hs hT hn r1 r2 hc3 hf2 (by omega) hok hT32
          have hfrm : ∀ j, j < s * 96 ∨ s * 96 + 96 ≤ j → K' j = K j ∧ N' j = N j ∧ (upd E (s * 96 + q) (nI (s * 96 + (r + cl)))) j = E j := fun j hj => ⟨hP.2.2.1 j hj, hP.2.2.2.1 j (by omega), pk_un (by omega)⟩
          have hoT2 : ∀ i, i < L → ∃ p0, p0 < r + cl ∧ oT i = nI (s * 96 + p0) := fun i hi => by
            obtain ⟨p0, a, b⟩ := hoT i hi
            exact ⟨p0, by omega, b⟩
          by_cases k5 : ll_kd T (q + ol) r = 5
          · obtain ⟨z1, z2, z3, z4⟩ := hP.2.2.2.2.2.2 k5
            have hd : ll_dok T (q + ol) r := by
              unfold ll_ok at hok
              rw [if_neg (by omega), if_pos k5] at hok
              exact hok
            have hd4 := hd.2.2.2.1
            have hd5 := hd.2.2.2.2
            have hgd : ∀ i, i < ol' → 32 < oM' i := fun i hi => by
              rw [z3 i hi]
              exact (ll_sm_a (ll_dh T (q + ol) r - ll_da T (q + ol) r) (ll_da T (q + ol) r) (ll_da T (q + ol) r + i) (by omega) (show ll_da T (q + ol) r + i < ll_de T (q + ol) r from by omega)).1
            refine cl_go (p1 := r + cl) (ol1 := ol') (cl1 := cl') (L1 := L) (K1 := K') (N1 := N') (E1 := (upd E (s * 96 + q) (nI (s * 96 + (r + cl))))) (G1 := G) (oM1 := oM') (cM1 := cM') (oT1 := oT) (by omega) (fun j hj => ⟨(hfrm j hj).1, (hfrm j hj).2.1, (hfrm j hj).2.2, rfl⟩) (fun post h => ?_) ?_ (ih (r + cl) ol' cl' L (tg + 1) K' N' (upd E (s * 96 + q) (nI (s * 96 + (r + cl)))) G oM' cM' oT (by omega) (by omega) (by omega) (by omega) (by omega) (by omega) hgd (by omega) hL2 hoT2)
            · exact br_f (nI_ge (b := 96) (by omega) (by decide)) (xl_findE_openMark (x := p) hs hT ho3 hn hp hf rfl (br_f (la_n1 (by omega)) (hgo 0 (nI (L)) oT G (fun post' h' => xn_oth hs (by omega) hP.1 kb.2 (by omega) (by omega) (by omega) (fun _ => h') (fun y => by omega)) _ (br_t rfl ⟨vp_in_nI (by omega) (by omega), nm_r (e' := nI (s * 96 + (r + cl))) (by rw [show ll_oI (s * 96) (some q) = nI (s * 96 + q) from rfl, nI_clamp (by omega)]; exact pk_us) (nm_r (nI_1 _) h)⟩))))
            · intro g_ol g_cl g_newOl g_newCl g_tagName g_parseErr g_openCount g_nVals g_outLen g_outCap g_fn g_cn b_text b_len b_stat b_errPos b_removed b_tType b_tA b_tB b_tName b_tMatch b_tCount b_oc b_cc b_newO b_newC b_openName b_openTok b_vKind b_vNum b_vCnt b_vStr b_vItem b_vKey b_vVal b_out b_fv b_cKind b_cSlot b_cTok b_cVal b_cIdx b_dig m ps tp st sp y1 y2 y3 y4 y5 y6
              exact yz_set hs y1 hR y2 hn hp ho1 ho3 hc1 hc3 y6 y3 y4 y5 hf hf2 hok hT32 hP k5
          · obtain ⟨e1, e2, e3, e4⟩ := hP.2.2.2.2.2.1 k5
            have e1' := e1.symm
            have e2' := e2.symm
            have e3' := e3.symm
            have e4' := e4.symm
            clear e1 e2 e3 e4
            subst e1' e2' e3' e4'
            by_cases k6 : ll_kd T (q + ol) r = 6 ∨ ll_kd T (q + ol) r = 7
            · by_cases hLl : L < 2
              · have hoT3 : ∀ i, i < L + 1 → ∃ p0, p0 < r + cl ∧ upd oT L (nI (s * 96 + q)) i = nI (s * 96 + p0) := fun i hi => by
                  by_cases w : i = L
                  · exact ⟨q, by omega, by rw [w]; exact pk_us⟩
                  · obtain ⟨p0, a, b⟩ := hoT2 i (by omega)
                    exact ⟨p0, a, (pk_un w).trans b⟩
                refine cl_go (p1 := r + cl) (ol1 := ol) (cl1 := cl) (L1 := (L + 1)) (K1 := K') (N1 := N') (E1 := (upd E (s * 96 + q) (nI (s * 96 + (r + cl))))) (G1 := G) (oM1 := oM) (cM1 := cM) (oT1 := (upd oT L (nI (s * 96 + q)))) (by omega) (fun j hj => ⟨(hfrm j hj).1, (hfrm j hj).2.1, (hfrm j hj).2.2, rfl⟩) (fun post h => ?_) ?_ (ih (r + cl) ol cl (L + 1) (tg + 1) K' N' (upd E (s * 96 + q) (nI (s * 96 + (r + cl)))) G oM cM (upd oT L (nI (s * 96 + q))) (by omega) (by omega) ho1 ho3 hc1 hc3 hoM (by omega) (by omega) hoT3)
                · exact br_f (nI_ge (b := 96) (by omega) (by decide)) (xl_findE_openMark (x := p) hs hT ho3 hn hp hf rfl (br_f (la_n1 (by omega)) (hgo 0 (nI ((L + 1))) (upd oT L (nI (s * 96 + q))) G (fun post' h' => xn_beg hs (by omega) hL2 hP.1 k6 (fun _ => h') (fun y => by omega)) _ (br_t rfl ⟨vp_in_nI (by omega) (by omega), nm_r (e' := nI (s * 96 + (r + cl))) (by rw [show ll_oI (s * 96) (some q) = nI (s * 96 + q) from rfl, nI_clamp (by omega)]; exact pk_us) (nm_r (nI_1 _) h)⟩))))
                · intro g_ol g_cl g_newOl g_newCl g_tagName g_parseErr g_openCount g_nVals g_outLen g_outCap g_fn g_cn b_text b_len b_stat b_errPos b_removed b_tType b_tA b_tB b_tName b_tMatch b_tCount b_oc b_cc b_newO b_newC b_openName b_openTok b_vKind b_vNum b_vCnt b_vStr b_vItem b_vKey b_vVal b_out b_fv b_cKind b_cSlot b_cTok b_cVal b_cIdx b_dig m ps tp st sp y1 y2 y3 y4 y5 y6
                  exact yz_beg hs y1 hR y2 hn hp ho1 ho3 hc1 hc3 y6 y3 y4 y5 hf hf2 hok hT32 hP k6 hLl
              · refine ⟨-5, nI q, nI ol, nI cl, nI L, K', N', (upd E (s * 96 + q) (nI (s * 96 + (r + cl)))), G, oM, cM, oT, fun j hj => ⟨(hfrm j hj).1, (hfrm j hj).2.1, (hfrm j hj).2.2, rfl⟩, fun z => absurd z (by decide), fun post h => ?_, ?_⟩
                · exact br_f (nI_ge (b := 96) (by omega) (by decide)) (xl_findE_openMark (x := p) hs hT ho3 hn hp hf rfl (br_f (la_n1 (by omega)) (hgo (-5) (nI L) oT G (fun post' h' => xn_beg hs (by omega) hL2 hP.1 k6 (fun y => by omega) (fun _ => h')) _ (br_f (by decide) (cx_err hs (by decide) h)))))
                · intro g_ol g_cl g_newOl g_newCl g_tagName g_parseErr g_openCount g_nVals g_outLen g_outCap g_fn g_cn b_text b_len b_stat b_errPos b_removed b_tType b_tA b_tB b_tName b_tMatch b_tCount b_oc b_cc b_newO b_newC b_openName b_openTok b_vKind b_vNum b_vCnt b_vStr b_vItem b_vKey b_vVal b_out b_fv b_cKind b_cSlot b_cTok b_cVal b_cIdx b_dig m ps tp st sp y1 y2 y3 y4 y5 y6
                  obtain ⟨g_ol', g_cl', g_newOl', g_newCl', g_tagName', g_parseErr', g_openCount', b_removed', b_tType', b_tA', b_tB', b_tName', b_tMatch', b_tCount', b_oc', b_cc', b_newO', b_newC', b_openName', b_openTok', w1, w2, w3⟩ := yz_begF hs y1 hR y2 hn hp ho1 ho3 hc1 hc3 y6 y3 y4 y5 hf hf2 hok rfl k6 (by omega)
                  exact ⟨g_ol', g_cl', g_newOl', g_newCl', g_tagName', g_parseErr', g_openCount', b_removed', b_tType', b_tA', b_tB', b_tName', b_tMatch', b_tCount', b_oc', b_cc', b_newO', b_newC', b_openName', b_openTok', w1, fun _ => w2, fun z => absurd z (by decide), fun post h => w3 post F h⟩
            · by_cases k8 : ll_kd T (q + ol) r = 8
              · have hK8 : K' (s * 96 + q) = nI 8 := by rw [hP.1, k8]
                by_cases hL0 : L = 0
                · subst hL0
                  refine ⟨-5, nI q, nI ol, nI cl, nI 0, K', N', (upd E (s * 96 + q) (nI (s * 96 + (r + cl)))), G, oM, cM, oT, fun j hj => ⟨(hfrm j hj).1, (hfrm j hj).2.1, (hfrm j hj).2.2, rfl⟩, fun z => absurd z (by decide), fun post h => ?_, ?_⟩
                  · exact br_f (nI_ge (b := 96) (by omega) (by decide)) (xl_findE_openMark (x := p) hs hT ho3 hn hp hf rfl (br_f (la_n1 (by omega)) (hgo (-5) (nI 0) oT G (fun post' h' => xn_end0 hs (by omega) hK8 h') _ (br_f (by decide) (cx_err hs (by decide) h)))))
                  · intro g_ol g_cl g_newOl g_newCl g_tagName g_parseErr g_openCount g_nVals g_outLen g_outCap g_fn g_cn b_text b_len b_stat b_errPos b_removed b_tType b_tA b_tB b_tName b_tMatch b_tCount b_oc b_cc b_newO b_newC b_openName b_openTok b_vKind b_vNum b_vCnt b_vStr b_vItem b_vKey b_vVal b_out b_fv b_cKind b_cSlot b_cTok b_cVal b_cIdx b_dig m ps tp st sp y1 y2 y3 y4 y5 y6
                    obtain ⟨g_ol', g_cl', g_newOl', g_newCl', g_tagName', g_parseErr', g_openCount', b_removed', b_tType', b_tA', b_tB', b_tName', b_tMatch', b_tCount', b_oc', b_cc', b_newO', b_newC', b_openName', b_openTok', w1, w2, w3⟩ := yz_endF0 hs y1 hR y2 hn hp ho1 ho3 hc1 hc3 y6 y3 y4 y5 hf hf2 hok rfl k8 rfl
                    exact ⟨g_ol', g_cl', g_newOl', g_newCl', g_tagName', g_parseErr', g_openCount', b_removed', b_tType', b_tA', b_tB', b_tName', b_tMatch', b_tCount', b_oc', b_cc', b_newO', b_newC', b_openName', b_openTok', w1, fun _ => w2, fun z => absurd z (by decide), fun post h => w3 post F h⟩
                · obtain ⟨p0, hp0, hO⟩ := hoT (L - 1) (by omega)
                  obtain ⟨L0, hLL⟩ : ∃ L0, L = L0 + 1 := ⟨L - 1, by omega⟩
                  have hNp : N' (s * 96 + p0) = N (s * 96 + p0) := hP.2.2.2.1 _ (by omega)
                  have hNq : N' (s * 96 + q) = ll_na T (q + ol) r := hP.2.2.2.2.1 (by omega) (by omega)
                  subst hLL
                  have hO' : oT L0 = nI (s * 96 + p0) := hO
                  by_cases hnm : N' (s * 96 + p0) = N' (s * 96 + q)
                  · refine cl_go (p1 := r + cl) (ol1 := ol) (cl1 := cl) (L1 := L0) (K1 := K') (N1 := N') (E1 := (upd E (s * 96 + q) (nI (s * 96 + (r + cl))))) (G1 := (upd G (s * 96 + p0) (nI (s * 96 + (r + cl))))) (oM1 := oM) (cM1 := cM) (oT1 := oT) (by omega) (fun j hj => ⟨(hfrm j hj).1, (hfrm j hj).2.1, (hfrm j hj).2.2, pk_un (by omega)⟩) (fun post h => ?_) ?_ (ih (r + cl) ol cl L0 (tg + 1) K' N' (upd E (s * 96 + q) (nI (s * 96 + (r + cl)))) (upd G (s * 96 + p0) (nI (s * 96 + (r + cl)))) oM cM oT (by omega) (by omega) ho1 ho3 hc1 hc3 hoM (by omega) (by omega) (fun i hi => hoT2 i (by omega)))
                    · exact br_f (nI_ge (b := 96) (by omega) (by decide)) (xl_findE_openMark (x := p) hs hT ho3 hn hp hf rfl (br_f (la_n1 (by omega)) (hgo 0 (nI (L0)) oT (upd G (s * 96 + p0) (nI (s * 96 + (r + cl)))) (fun post' h' => xn_end hs (by omega) (by omega) (by omega) hK8 pk_us hO' (fun _ => h') (fun y => absurd hnm y)) _ (br_t rfl ⟨vp_in_nI (by omega) (by omega), nm_r (e' := nI (s * 96 + (r + cl))) (by rw [show ll_oI (s * 96) (some q) = nI (s * 96 + q) from rfl, nI_clamp (by omega)]; exact pk_us) (nm_r (nI_1 _) h)⟩))))
                    · intro g_ol g_cl g_newOl g_newCl g_tagName g_parseErr g_openCount g_nVals g_outLen g_outCap g_fn g_cn b_text b_len b_stat b_errPos b_removed b_tType b_tA b_tB b_tName b_tMatch b_tCount b_oc b_cc b_newO b_newC b_openName b_openTok b_vKind b_vNum b_vCnt b_vStr b_vItem b_vKey b_vVal b_out b_fv b_cKind b_cSlot b_cTok b_cVal b_cIdx b_dig m ps tp st sp y1 y2 y3 y4 y5 y6
                      exact yz_cls hs y1 hR y2 hn hp ho1 ho3 hc1 hc3 y6 y3 y4 y5 hf hf2 hok hT32 hP k8 (by omega) (by omega) hO (hNp.symm.trans (hnm.trans hNq))
                  · refine ⟨-5, nI q, nI ol, nI cl, nI (L0 + 1), K', N', (upd E (s * 96 + q) (nI (s * 96 + (r + cl)))), G, oM, cM, oT, fun j hj => ⟨(hfrm j hj).1, (hfrm j hj).2.1, (hfrm j hj).2.2, rfl⟩, fun z => absurd z (by decide), fun post h => ?_, ?_⟩
                    · exact br_f (nI_ge (b := 96) (by omega) (by decide)) (xl_findE_openMark (x := p) hs hT ho3 hn hp hf rfl (br_f (la_n1 (by omega)) (hgo (-5) (nI (L0 + 1)) oT G (fun post' h' => xn_end hs (by omega) (by omega) (by omega) hK8 pk_us hO' (fun y => absurd y hnm) (fun _ => h')) _ (br_f (by decide) (cx_err hs (by decide) h)))))
                    · intro g_ol g_cl g_newOl g_newCl g_tagName g_parseErr g_openCount g_nVals g_outLen g_outCap g_fn g_cn b_text b_len b_stat b_errPos b_removed b_tType b_tA b_tB b_tName b_tMatch b_tCount b_oc b_cc b_newO b_newC b_openName b_openTok b_vKind b_vNum b_vCnt b_vStr b_vItem b_vKey b_vVal b_out b_fv b_cKind b_cSlot b_cTok b_cVal b_cIdx b_dig m ps tp st sp y1 y2 y3 y4 y5 y6
                      obtain ⟨g_ol', g_cl', g_newOl', g_newCl', g_tagName', g_parseErr', g_openCount', b_removed', b_tType', b_tA', b_tB', b_tName', b_tMatch', b_tCount', b_oc', b_cc', b_newO', b_newC', b_openName', b_openTok', w1, w2, w3⟩ := yz_endF1 hs y1 hR y2 hn hp ho1 ho3 hc1 hc3 y6 y3 y4 y5 hf hf2 hok rfl k8 (by omega) (fun w => hnm (hNp.trans ((cp_top y4 hs (by omega) (by omega) y5 hO').symm.trans (w.trans hNq.symm))))
                      exact ⟨g_ol', g_cl', g_newOl', g_newCl', g_tagName', g_parseErr', g_openCount', b_removed', b_tType', b_tA', b_tB', b_tName', b_tMatch', b_tCount', b_oc', b_cc', b_newO', b_newC', b_openName', b_openTok', w1, fun _ => w2, fun z => absurd z (by decide), fun post h => w3 post F h⟩
              · by_cases k9 : ll_kd T (q + ol) r = 9 ∧ s ≠ 0
                · refine ⟨-6, nI q, nI ol, nI cl, nI L, K', N', (upd E (s * 96 + q) (nI (s * 96 + (r + cl)))), G, oM, cM, oT, fun j hj => ⟨(hfrm j hj).1, (hfrm j hj).2.1, (hfrm j hj).2.2, rfl⟩, fun z => absurd z (by decide), fun post h => ?_, ?_⟩
                  · exact br_f (nI_ge (b := 96) (by omega) (by decide)) (xl_findE_openMark (x := p) hs hT ho3 hn hp hf rfl (br_f (la_n1 (by omega)) (hgo (-6) (nI L) oT G (fun post' h' => xn_oth hs (by omega) hP.1 kb.2 (by omega) (by omega) k8 (fun y => absurd (y k9.1) k9.2) (fun _ _ => h')) _ (br_f (by decide) (cx_err hs (by decide) h)))))
                  · intro g_ol g_cl g_newOl g_newCl g_tagName g_parseErr g_openCount g_nVals g_outLen g_outCap g_fn g_cn b_text b_len b_stat b_errPos b_removed b_tType b_tA b_tB b_tName b_tMatch b_tCount b_oc b_cc b_newO b_newC b_openName b_openTok b_vKind b_vNum b_vCnt b_vStr b_vItem b_vKey b_vVal b_out b_fv b_cKind b_cSlot b_cTok b_cVal b_cIdx b_dig m ps tp st sp y1 y2 y3 y4 y5 y6
                    obtain ⟨g_ol', g_cl', g_newOl', g_newCl', g_tagName', g_parseErr', g_openCount', b_removed', b_tType', b_tA', b_tB', b_tName', b_tMatch', b_tCount', b_oc', b_cc', b_newO', b_newC', b_openName', b_openTok', w1, w2, w3⟩ := yz_incF hs y1 hR y2 hn hp ho1 ho3 hc1 hc3 y6 y3 y4 y5 hf hf2 hok rfl k9.1 k9.2
                    exact ⟨g_ol', g_cl', g_newOl', g_newCl', g_tagName', g_parseErr', g_openCount', b_removed', b_tType', b_tA', b_tB', b_tName', b_tMatch', b_tCount', b_oc', b_cc', b_newO', b_newC', b_openName', b_openTok', w1, fun _ => w2, fun z => absurd z (by decide), fun post h => w3 post F h⟩
                · have k9' : ll_kd T (q + ol) r = 9 → s = 0 := fun y => by
                    apply Classical.byContradiction
                    intro w
                    exact k9 ⟨y, w⟩
                  refine cl_go (p1 := r + cl) (ol1 := ol) (cl1 := cl) (L1 := L) (K1 := K') (N1 := N') (E1 := (upd E (s * 96 + q) (nI (s * 96 + (r + cl))))) (G1 := G) (oM1 := oM) (cM1 := cM) (oT1 := oT) (by omega) (fun j hj => ⟨(hfrm j hj).1, (hfrm j hj).2.1, (hfrm j hj).2.2, rfl⟩) (fun post h => ?_) ?_ (ih (r + cl) ol cl L (tg + 1) K' N' (upd E (s * 96 + q) (nI (s * 96 + (r + cl)))) G oM cM oT (by omega) (by omega) ho1 ho3 hc1 hc3 hoM (by omega) hL2 hoT2)
                  · exact br_f (nI_ge (b := 96) (by omega) (by decide)) (xl_findE_openMark (x := p) hs hT ho3 hn hp hf rfl (br_f (la_n1 (by omega)) (hgo 0 (nI (L)) oT G (fun post' h' => xn_oth hs (by omega) hP.1 kb.2 (by omega) (by omega) k8 (fun _ => h') (fun y z => absurd (k9' y) z)) _ (br_t rfl ⟨vp_in_nI (by omega) (by omega), nm_r (e' := nI (s * 96 + (r + cl))) (by rw [show ll_oI (s * 96) (some q) = nI (s * 96 + q) from rfl, nI_clamp (by omega)]; exact pk_us) (nm_r (nI_1 _) h)⟩))))
                  · intro g_ol g_cl g_newOl g_newCl g_tagName g_parseErr g_openCount g_nVals g_outLen g_outCap g_fn g_cn b_text b_len b_stat b_errPos b_removed b_tType b_tA b_tB b_tName b_tMatch b_tCount b_oc b_cc b_newO b_newC b_openName b_openTok b_vKind b_vNum b_vCnt b_vStr b_vItem b_vKey b_vVal b_out b_fv b_cKind b_cSlot b_cTok b_cVal b_cIdx b_dig m ps tp st sp y1 y2 y3 y4 y5 y6
                    exact yz_oth hs y1 hR y2 hn hp ho1 ho3 hc1 hc3 y6 y3 y4 y5 hf hf2 hok hT32 hP k5 (by omega) (by omega) k8 k9'
        · obtain ⟨N', hN', hgo⟩ := xr_B (f_openCount := nI L) (f_valueCount := f_valueCount) (f_outCap := f_outCap) (f_outCount := f_outCount) (f_frameCount := f_frameCount) (f_valueTextLength := f_valueTextLength) (f_renderAt := f_renderAt) (f_renderTo := f_renderTo) (f_returnAt := f_returnAt) (f_finished := f_finished) (f_overflowed := f_overflowed) (a_text := a_text) (a_cellKind := K) (a_cellName := N) (a_tagEnd := E) (a_sectionEnd := G) (a_textLength := a_textLength) (a_slotStatus := a_slotStatus) (a_slotError := a_slotError) (a_openMark := oM) (a_closeMark := cM) (a_openTags := oT) (a_valueKind := a_valueKind) (a_amount := a_amount) (a_parts := a_parts) (a_fieldValues := a_fieldValues) (a_out := a_out) (a_frameValue := a_frameValue) (a_frameList := a_frameList) (a_frameNext := a_frameNext) (a_frameBody := a_frameBody) (a_valueText := a_valueText) hs hT hn r1 r2 hc3 hf2 (by omega) hok
          refine ⟨-4, nI q, nI ol, nI cl, nI L, (upd K (s * 96 + q) (nI (ll_kd T (q + ol) r))), N', (upd E (s * 96 + q) (nI (s * 96 + (r + cl)))), G, oM, cM, oT, fun j hj => ⟨pk_un (by omega), hN' j (by omega), pk_un (by omega), rfl⟩, fun z => absurd z (by decide), fun post h => ?_, ?_⟩
          · exact br_f (nI_ge (b := 96) (by omega) (by decide)) (xl_findE_openMark (x := p) hs hT ho3 hn hp hf rfl (br_f (la_n1 (by omega)) (hgo _ (br_f (by decide) (cx_err hs (by decide) h)))))
          · intro g_ol g_cl g_newOl g_newCl g_tagName g_parseErr g_openCount g_nVals g_outLen g_outCap g_fn g_cn b_text b_len b_stat b_errPos b_removed b_tType b_tA b_tB b_tName b_tMatch b_tCount b_oc b_cc b_newO b_newC b_openName b_openTok b_vKind b_vNum b_vCnt b_vStr b_vItem b_vKey b_vVal b_out b_fv b_cKind b_cSlot b_cTok b_cVal b_cIdx b_dig m ps tp st sp y1 y2 y3 y4 y5 y6
            obtain ⟨g_ol', g_cl', g_newOl', g_newCl', g_tagName', g_parseErr', g_openCount', b_removed', b_tType', b_tA', b_tB', b_tName', b_tMatch', b_tCount', b_oc', b_cc', b_newO', b_newC', b_openName', b_openTok', w1, w2, w3⟩ := yz_B hs y1 hR y2 hn hp ho1 ho3 hc1 hc3 y6 y3 y4 y5 hf hf2 hok
            exact ⟨g_ol', g_cl', g_newOl', g_newCl', g_tagName', g_parseErr', g_openCount', b_removed', b_tType', b_tA', b_tB', b_tName', b_tMatch', b_tCount', b_oc', b_cc', b_newO', b_newC', b_openName', b_openTok', w1, fun _ => w2, fun z => absurd z (by decide), fun post h => w3 post F h⟩
end LLMN
end
section
section LLCM
section XX
variable {f_openMarkLength f_closeMarkLength f_openCount f_compileFrom f_compileTo f_valueCount f_outCap f_outCount f_frameCount f_valueTextLength f_renderAt f_renderTo f_returnAt f_finished f_overflowed : Int32} {a_text a_cellKind a_cellName a_tagEnd a_sectionEnd a_textLength a_slotStatus a_slotError a_openMark a_closeMark a_openTags a_valueKind a_amount a_parts a_fieldValues a_out a_frameValue a_frameList a_frameNext a_frameBody a_valueText : Nat → Int32} {s n : Nat}
theorem xs_45 {post : SX → Prop} (h : post (2, 2, 0, f_compileFrom, f_compileTo, f_valueCount, f_outCap, f_outCount, f_frameCount, f_valueTextLength, f_renderAt, f_renderTo, f_returnAt, f_finished, f_overflowed, a_text, a_cellKind, a_cellName, a_tagEnd, a_sectionEnd, a_textLength, a_slotStatus, a_slotError, fl_f a_openMark 0 2 123, fl_f a_closeMark 0 2 125, a_openTags, a_valueKind, a_amount, a_parts, a_fieldValues, a_out, a_frameValue, a_frameList, a_frameNext, a_frameBody, a_valueText)) : ∀ d i, i + d = 2 → wX_startCompile_45 post f_openMarkLength f_closeMarkLength f_openCount f_compileFrom f_compileTo f_valueCount f_outCap f_outCount f_frameCount f_valueTextLength f_renderAt f_renderTo f_returnAt f_finished f_overflowed (d + 1) (nI i) a_text a_cellKind a_cellName a_tagEnd a_sectionEnd a_textLength a_slotStatus a_slotError (fl_f a_openMark 0 i 123) (fl_f a_closeMark 0 i 125) a_openTags a_valueKind a_amount a_parts a_fieldValues a_out a_frameValue a_frameList a_frameNext a_frameBody a_valueText := by
  intro d
  induction d with
  | zero =>
    intro i hi
    have e : i = 2 := by omega
    subst e
    exact br_t (nI_le (a := 2) (b := 2) (by omega) (by decide)) h
  | succ d ih =>
    intro i hi
    refine br_f (nI_ge (b := 2) (by omega) (by decide)) ⟨vp_in_nI (by omega) (by omega), nm_r ?_ ⟨vp_in_nI (by omega) (by omega), nm_r ?_ (nm_r (nI_1 _) (ih (i + 1) (by omega)))⟩⟩
    · rw [nI_clamp (by omega)]; exact fl_s (by omega)
    · rw [nI_clamp (by omega)]; exact fl_s (by omega)
theorem xs_22 {post : SX → Prop} (hs : s < 4) (hn : n ≤ 96) (h : post (2, 2, 0, f_compileFrom, nI (s * 96 + n), f_valueCount, f_outCap, f_outCount, f_frameCount, f_valueTextLength, f_renderAt, f_renderTo, f_returnAt, f_finished, f_overflowed, a_text, fl_f a_cellKind (s * 96) (s * 96 + n) 0, a_cellName, a_tagEnd, a_sectionEnd, a_textLength, a_slotStatus, a_slotError, fl_f a_openMark 0 2 123, fl_f a_closeMark 0 2 125, a_openTags, a_valueKind, a_amount, a_parts, a_fieldValues, a_out, a_frameValue, a_frameList, a_frameNext, a_frameBody, a_valueText)) : ∀ d i, i + d = n → wX_startCompile_22 post f_openMarkLength f_closeMarkLength f_openCount f_compileFrom (nI (s * 96 + n)) f_valueCount f_outCap f_outCount f_frameCount f_valueTextLength f_renderAt f_renderTo f_returnAt f_finished f_overflowed (d + 1) (nI (s * 96 + i)) a_text (fl_f a_cellKind (s * 96) (s * 96 + i) 0) a_cellName a_tagEnd a_sectionEnd a_textLength a_slotStatus a_slotError a_openMark a_closeMark a_openTags a_valueKind a_amount a_parts a_fieldValues a_out a_frameValue a_frameList a_frameNext a_frameBody a_valueText := by
  intro d
  induction d with
  | zero =>
    intro i hi
    have e : i = n := by omega
    subst e
    have r := xs_45 (f_openMarkLength := f_openMarkLength) (f_closeMarkLength := f_closeMarkLength) (f_openCount := f_openCount) (f_compileFrom := f_compileFrom) (f_compileTo := nI (s * 96 + i)) (f_valueCount := f_valueCount) (f_outCap := f_outCap) (f_outCount := f_outCount) (f_frameCount := f_frameCount) (f_valueTextLength := f_valueTextLength) (f_renderAt := f_renderAt) (f_renderTo := f_renderTo) (f_returnAt := f_returnAt) (f_finished := f_finished) (f_overflowed := f_overflowed) (a_text := a_text) (a_cellKind := fl_f a_cellKind (s * 96) (s * 96 + i) 0) (a_cellName := a_cellName) (a_tagEnd := a_tagEnd) (a_sectionEnd := a_sectionEnd) (a_textLength := a_textLength) (a_slotStatus := a_slotStatus) (a_slotError := a_slotError) (a_openMark := a_openMark) (a_closeMark := a_closeMark) (a_openTags := a_openTags) (a_valueKind := a_valueKind) (a_amount := a_amount) (a_parts := a_parts) (a_fieldValues := a_fieldValues) (a_out := a_out) (a_frameValue := a_frameValue) (a_frameList := a_frameList) (a_frameNext := a_frameNext) (a_frameBody := a_frameBody) (a_valueText := a_valueText) (post := post) h 2 0 rfl
    rw [fl_0 (lo := 0) (hi := 0) (x := 123) (Nat.le_refl _), fl_0 (lo := 0) (hi := 0) (x := 125) (Nat.le_refl _)] at r
    exact br_t (nI_le (by omega) (by omega)) ⟨_, r⟩
  | succ d ih =>
    intro i hi
    refine br_f (nI_ge (by omega) (by omega)) ⟨vp_in_nI (by omega) (by omega), nm_r ?_ (nm_r (nI_1 _) (ih (i + 1) (by omega)))⟩
    rw [nI_clamp (by omega)]
    exact fl_s (by omega)
theorem xs_st {post : SX → Prop} (hs : s < 4) (hn : n ≤ 96) (hl : a_textLength s = nI n) (h : post (2, 2, 0, nI (s * 96), nI (s * 96 + n), f_valueCount, f_outCap, f_outCount, f_frameCount, f_valueTextLength, f_renderAt, f_renderTo, f_returnAt, f_finished, f_overflowed, a_text, fl_f a_cellKind (s * 96) (s * 96 + n) 0, a_cellName, a_tagEnd, a_sectionEnd, a_textLength, a_slotStatus, a_slotError, fl_f a_openMark 0 2 123, fl_f a_closeMark 0 2 125, a_openTags, a_valueKind, a_amount, a_parts, a_fieldValues, a_out, a_frameValue, a_frameList, a_frameNext, a_frameBody, a_valueText)) : wpX_startCompile post (f_openMarkLength, f_closeMarkLength, f_openCount, f_compileFrom, f_compileTo, f_valueCount, f_outCap, f_outCount, f_frameCount, f_valueTextLength, f_renderAt, f_renderTo, f_returnAt, f_finished, f_overflowed, a_text, a_cellKind, a_cellName, a_tagEnd, a_sectionEnd, a_textLength, a_slotStatus, a_slotError, a_openMark, a_closeMark, a_openTags, a_valueKind, a_amount, a_parts, a_fieldValues, a_out, a_frameValue, a_frameList, a_frameNext, a_frameBody, a_valueText) (nI s) := by
  unfold wpX_startCompile
  have r := xs_22 (f_openMarkLength := f_openMarkLength) (f_closeMarkLength := f_closeMarkLength) (f_openCount := f_openCount) (f_compileFrom := nI (s * 96)) (f_valueCount := f_valueCount) (f_outCap := f_outCap) (f_outCount := f_outCount) (f_frameCount := f_frameCount) (f_valueTextLength := f_valueTextLength) (f_renderAt := f_renderAt) (f_renderTo := f_renderTo) (f_returnAt := f_returnAt) (f_finished := f_finished) (f_overflowed := f_overflowed) (a_text := a_text) (a_cellKind := a_cellKind) (a_cellName := a_cellName) (a_tagEnd := a_tagEnd) (a_sectionEnd := a_sectionEnd) (a_textLength := a_textLength) (a_slotStatus := a_slotStatus) (a_slotError := a_slotError) (a_openMark := a_openMark) (a_closeMark := a_closeMark) (a_openTags := a_openTags) (a_valueKind := a_valueKind) (a_amount := a_amount) (a_parts := a_parts) (a_fieldValues := a_fieldValues) (a_out := a_out) (a_frameValue := a_frameValue) (a_frameList := a_frameList) (a_frameNext := a_frameNext) (a_frameBody := a_frameBody) (a_valueText := a_valueText) (post := post) hs hn h n 0 (by omega)
  rw [fl_0 (by omega)] at r
  exact nm_r (la_m96 s) (xl_tend hs hl ⟨_, r⟩)
end XX
section YY
variable {g_ol g_cl g_newOl g_newCl g_tagName g_parseErr g_openCount g_nVals g_outLen g_outCap g_fn g_cn : Int32} {b_text b_len b_stat b_errPos b_removed b_tType b_tA b_tB b_tName b_tMatch b_tCount b_oc b_cc b_newO b_newC b_openName b_openTok b_vKind b_vNum b_vCnt b_vStr b_vItem b_vKey b_vVal b_out b_fv b_cKind b_cSlot b_cTok b_cVal b_cIdx b_dig : Nat → Int32} {s n : Nat}
theorem ys_68 {post : Int32 → SY → Prop} {x2 : Int32} (hs : s < 4) (h : ∃ n97, wY_parse_97 post (nI s) x2 n97 0 0 g_ol g_cl g_newOl g_newCl g_tagName g_parseErr g_openCount g_nVals g_outLen g_outCap g_fn g_cn b_text b_len b_stat b_errPos (fl_f b_removed (s * 96) (s * 96 + 96) 0) b_tType b_tA b_tB b_tName b_tMatch b_tCount b_oc b_cc b_newO b_newC b_openName b_openTok b_vKind b_vNum b_vCnt b_vStr b_vItem b_vKey b_vVal b_out b_fv b_cKind b_cSlot b_cTok b_cVal b_cIdx b_dig) : ∀ d i, i + d = 96 → wY_parse_68 post (nI s) x2 g_ol g_cl g_newOl g_newCl g_tagName g_parseErr g_openCount g_nVals g_outLen g_outCap g_fn g_cn (d + 1) (nI i) b_text b_len b_stat b_errPos (fl_f b_removed (s * 96) (s * 96 + i) 0) b_tType b_tA b_tB b_tName b_tMatch b_tCount b_oc b_cc b_newO b_newC b_openName b_openTok b_vKind b_vNum b_vCnt b_vStr b_vItem b_vKey b_vVal b_out b_fv b_cKind b_cSlot b_cTok b_cVal b_cIdx b_dig := by
  intro d
  induction d with
  | zero =>
    intro i hi
    have e : i = 96 := by omega
    subst e
    exact br_t (nI_le (a := 96) (b := 96) (by omega) (by decide)) h
  | succ d ih =>
    intro i hi
    refine br_f (nI_ge (b := 96) (by omega) (by decide)) ⟨by rw [la_m96, nI_add]; exact vp_in_nI (by omega) (by omega), nm_r ?_ (nm_r (nI_1 _) (ih (i + 1) (by omega)))⟩
    rw [la_m96, nI_add, nI_clamp (by omega), vb_0]
    exact fl_s (by omega)
theorem ys_p {post : Int32 → SY → Prop} (hs : s < 4) (hl : b_len s = nI n) (h : ∃ n97, wY_parse_97 post (nI s) (nI n) n97 0 0 2 2 g_newOl g_newCl g_tagName (-1) 0 g_nVals g_outLen g_outCap g_fn g_cn b_text b_len b_stat b_errPos (fl_f b_removed (s * 96) (s * 96 + 96) 0) b_tType b_tA b_tB b_tName b_tMatch (upd b_tCount s 0) (upd (upd b_oc 0 123) 1 123) (upd (upd b_cc 0 125) 1 125) b_newO b_newC b_openName b_openTok b_vKind b_vNum b_vCnt b_vStr b_vItem b_vKey b_vVal b_out b_fv b_cKind b_cSlot b_cTok b_cVal b_cIdx b_dig) : wpY_parse post (g_ol, g_cl, g_newOl, g_newCl, g_tagName, g_parseErr, g_openCount, g_nVals, g_outLen, g_outCap, g_fn, g_cn, b_text, b_len, b_stat, b_errPos, b_removed, b_tType, b_tA, b_tB, b_tName, b_tMatch, b_tCount, b_oc, b_cc, b_newO, b_newC, b_openName, b_openTok, b_vKind, b_vNum, b_vCnt, b_vStr, b_vItem, b_vKey, b_vVal, b_out, b_fv, b_cKind, b_cSlot, b_cTok, b_cVal, b_cIdx, b_dig) (nI s) := by
  unfold wpY_parse
  have r := ys_68 (g_ol := 2) (g_cl := 2) (g_newOl := g_newOl) (g_newCl := g_newCl) (g_tagName := g_tagName) (g_parseErr := -1) (g_openCount := 0) (g_nVals := g_nVals) (g_outLen := g_outLen) (g_outCap := g_outCap) (g_fn := g_fn) (g_cn := g_cn) (b_text := b_text) (b_len := b_len) (b_stat := b_stat) (b_errPos := b_errPos) (b_removed := b_removed) (b_tType := b_tType) (b_tA := b_tA) (b_tB := b_tB) (b_tName := b_tName) (b_tMatch := b_tMatch) (b_tCount := upd b_tCount s 0) (b_oc := upd (upd b_oc 0 123) 1 123) (b_cc := upd (upd b_cc 0 125) 1 125) (b_newO := b_newO) (b_newC := b_newC) (b_openName := b_openName) (b_openTok := b_openTok) (b_vKind := b_vKind) (b_vNum := b_vNum) (b_vCnt := b_vCnt) (b_vStr := b_vStr) (b_vItem := b_vItem) (b_vKey := b_vKey) (b_vVal := b_vVal) (b_out := b_out) (b_fv := b_fv) (b_cKind := b_cKind) (b_cSlot := b_cSlot) (b_cTok := b_cTok) (b_cVal := b_cVal) (b_cIdx := b_cIdx) (b_dig := b_dig) (post := post) (x2 := nI n) hs h 96 0 rfl
  rw [fl_0 (lo := s * 96) (hi := s * 96 + 0) (Nat.le_refl _)] at r
  exact ⟨vp_in_nI hs (by omega), nm_r (e' := nI n) (by rw [nI_clamp (by omega)]; exact hl) (nm_e (nm_e (nm_e (nm_e ⟨vp_in_nI hs (by omega), nm_r (by rw [nI_clamp (by omega)]) ⟨_, r⟩⟩))))⟩
end YY
section ALL
variable {f_openMarkLength f_closeMarkLength f_openCount f_compileFrom f_compileTo f_valueCount f_outCap f_outCount f_frameCount f_valueTextLength f_renderAt f_renderTo f_returnAt f_finished f_overflowed : Int32} {a_text a_cellKind a_cellName a_tagEnd a_sectionEnd a_textLength a_slotStatus a_slotError a_openMark a_closeMark a_openTags a_valueKind a_amount a_parts a_fieldValues a_out a_frameValue a_frameList a_frameNext a_frameBody a_valueText : Nat → Int32} {s n : Nat}
theorem cm_all (hs : s < 4) (hn : n ≤ 96) (hl : a_textLength s = nI n) (hR : ∀ j, 0 ≤ a_text j ∧ a_text j ≤ 126) : ∃ (r pe f1 f2 f3 : Int32) (K' N' E' G' oM' cM' oT' : Nat → Int32),
    (∀ j, j < s * 96 ∨ s * 96 + 96 ≤ j → K' j = a_cellKind j ∧ N' j = a_cellName j ∧ E' j = a_tagEnd j ∧ G' j = a_sectionEnd j) ∧ (r = 0 → pe = -1) ∧
    (∀ post : Int32 → SX → Prop, post r (f1, f2, f3, nI (s * 96), nI (s * 96 + n), f_valueCount, f_outCap, f_outCount, f_frameCount, f_valueTextLength, f_renderAt, f_renderTo, f_returnAt, f_finished, f_overflowed, a_text, K', N', E', G', a_textLength, upd a_slotStatus s r, upd a_slotError s pe, oM', cM', oT', a_valueKind, a_amount, a_parts, a_fieldValues, a_out, a_frameValue, a_frameList, a_frameNext, a_frameBody, a_valueText) → wpX_compile post (f_openMarkLength, f_closeMarkLength, f_openCount, f_compileFrom, f_compileTo, f_valueCount, f_outCap, f_outCount, f_frameCount, f_valueTextLength, f_renderAt, f_renderTo, f_returnAt, f_finished, f_overflowed, a_text, a_cellKind, a_cellName, a_tagEnd, a_sectionEnd, a_textLength, a_slotStatus, a_slotError, a_openMark, a_closeMark, a_openTags, a_valueKind, a_amount, a_parts, a_fieldValues, a_out, a_frameValue, a_frameList, a_frameNext, a_frameBody, a_valueText) (nI s)) ∧ (∀ (g_ol g_cl g_newOl g_newCl g_tagName g_parseErr g_openCount g_nVals g_outLen g_outCap g_fn g_cn : Int32) (b_text b_len b_stat b_errPos b_removed b_tType b_tA b_tB b_tName b_tMatch b_tCount b_oc b_cc b_newO b_newC b_openName b_openTok b_vKind b_vNum b_vCnt b_vStr b_vItem b_vKey b_vVal b_out b_fv b_cKind b_cSlot b_cTok b_cVal b_cIdx b_dig : Nat → Int32), (∀ i, i < 96 → b_text (s * 96 + i) = a_text (s * 96 + i)) → b_len s = nI n → ∃ (g_ol' g_cl' g_newOl' g_newCl' g_tagName' g_parseErr' g_openCount' : Int32) (b_removed' b_tType' b_tA' b_tB' b_tName' b_tMatch' b_tCount' b_oc' b_cc' b_newO' b_newC' b_openName' b_openTok' : Nat → Int32), fr_Y s b_removed b_tType b_tA b_tB b_tName b_tMatch b_tCount b_removed' b_tType' b_tA' b_tB' b_tName' b_tMatch' b_tCount' ∧ (¬ r = 0 → g_parseErr' = pe) ∧ (r = 0 → ∃ (m' : Nat) (ps' tp' : Nat → Nat) (st' : Nat → List Nat), b_tCount' s = nI m' ∧ tk_F s n (fun i => a_text (s * 96 + i)) K' N' E' G' b_removed' b_tType' b_tA' b_tB' b_tName' b_tMatch' m' ps' tp' st') ∧ ∀ post : Int32 → SY → Prop, post r (g_ol', g_cl', g_newOl', g_newCl', g_tagName', g_parseErr', g_openCount', g_nVals, g_outLen, g_outCap, g_fn, g_cn, b_text, b_len, b_stat, b_errPos, b_removed', b_tType', b_tA', b_tB', b_tName', b_tMatch', b_tCount', b_oc', b_cc', b_newO', b_newC', b_openName', b_openTok', b_vKind, b_vNum, b_vCnt, b_vStr, b_vItem, b_vKey, b_vVal, b_out, b_fv, b_cKind, b_cSlot, b_cTok, b_cVal, b_cIdx, b_dig) → wpY_parse post (g_ol, g_cl, g_newOl, g_newCl, g_tagName, g_parseErr, g_openCount, g_nVals, g_outLen, g_outCap, g_fn, g_cn, b_text, b_len, b_stat, b_errPos, b_removed, b_tType, b_tA, b_tB, b_tName, b_tMatch, b_tCount, b_oc, b_cc, b_newO, b_newC, b_openName, b_openTok, b_vKind, b_vNum, b_vCnt, b_vStr, b_vItem, b_vKey, b_vVal, b_out, b_fv, b_cKind, b_cSlot, b_cTok, b_cVal, b_cIdx, b_dig) (nI s)) := by
  have key := cl_main (f_openMarkLength := f_openMarkLength) (f_closeMarkLength := f_closeMarkLength) (f_openCount := f_openCount) (f_compileFrom := f_compileFrom) (f_compileTo := f_compileTo) (f_valueCount := f_valueCount) (f_outCap := f_outCap) (f_outCount := f_outCount) (f_frameCount := f_frameCount) (f_valueTextLength := f_valueTextLength) (f_renderAt := f_renderAt) (f_renderTo := f_renderTo) (f_returnAt := f_returnAt) (f_finished := f_finished) (f_overflowed := f_overflowed) (a_text := a_text) (a_cellKind := a_cellKind) (a_cellName := a_cellName) (a_tagEnd := a_tagEnd) (a_sectionEnd := a_sectionEnd) (a_textLength := a_textLength) (a_slotStatus := a_slotStatus) (a_slotError := a_slotError) (a_openMark := a_openMark) (a_closeMark := a_closeMark) (a_openTags := a_openTags) (a_valueKind := a_valueKind) (a_amount := a_amount) (a_parts := a_parts) (a_fieldValues := a_fieldValues) (a_out := a_out) (a_frameValue := a_frameValue) (a_frameList := a_frameList) (a_frameNext := a_frameNext) (a_frameBody := a_frameBody) (a_valueText := a_valueText) (s := s) (n := n) (T := fun i => a_text (s * 96 + i)) hs hn (fun i _ => rfl) (fun i _ => (hR _).2) (n + 1) 0 2 2 0 0 (fl_f a_cellKind (s * 96) (s * 96 + n) 0) a_cellName a_tagEnd a_sectionEnd (fl_f a_openMark 0 2 123) (fl_f a_closeMark 0 2 125) a_openTags (by omega) (by omega) (by omega) (by omega) (by omega) (by omega) (fun i hi => by rw [fl_in (by omega) hi]; decide) (by omega) (by omega) (fun i hi => absurd hi (by omega))
  obtain ⟨r, pe, f1, f2, f3, K', N', E', G', oM', cM', oT', i1, i2, i3, i4⟩ := key
  refine ⟨r, pe, f1, f2, f3, K', N', E', G', oM', cM', oT', fun j hj => ?_, i2, fun post h => ?_, ?_⟩
  · obtain ⟨a1, a2, a3, a4⟩ := i1 j hj
    exact ⟨a1.trans (fl_out (by omega)), a2, a3, a4⟩
  · unfold wpX_compile
    exact xl_slot hs (br_f (by decide) (xs_st hs hn hl ⟨_, i3 post h⟩))
  · intro g_ol g_cl g_newOl g_newCl g_tagName g_parseErr g_openCount g_nVals g_outLen g_outCap g_fn g_cn b_text b_len b_stat b_errPos b_removed b_tType b_tA b_tB b_tName b_tMatch b_tCount b_oc b_cc b_newO b_newC b_openName b_openTok b_vKind b_vNum b_vCnt b_vStr b_vItem b_vKey b_vVal b_out b_fv b_cKind b_cSlot b_cTok b_cVal b_cIdx b_dig y1 y2
    have up : ∀ (f g : Nat → Int32) (x : Int32) (i : Nat), i < 2 → upd (upd f 0 x) 1 x i = fl_f g 0 2 x i := fun f g x i hi => by
      rw [fl_in (by omega) hi]
      by_cases w : i = 1
      · rw [w, pk_us]
      · rw [pk_un w, show i = 0 from by omega, pk_us]
    obtain ⟨g_ol', g_cl', g_newOl', g_newCl', g_tagName', g_parseErr', g_openCount', b_removed', b_tType', b_tA', b_tB', b_tName', b_tMatch', b_tCount', b_oc', b_cc', b_newO', b_newC', b_openName', b_openTok', w1, w2, w3, w4⟩ := i4 2 2 g_newOl g_newCl g_tagName (-1) 0 g_nVals g_outLen g_outCap g_fn g_cn b_text b_len b_stat b_errPos (fl_f b_removed (s * 96) (s * 96 + 96) 0) b_tType b_tA b_tB b_tName b_tMatch (upd b_tCount s 0) (upd (upd b_oc 0 123) 1 123) (upd (upd b_cc 0 125) 1 125) b_newO b_newC b_openName b_openTok b_vKind b_vNum b_vCnt b_vStr b_vItem b_vKey b_vVal b_out b_fv b_cKind b_cSlot b_cTok b_cVal b_cIdx b_dig 0 (fun _ => 0) (fun _ => 0) (fun _ => []) 0 y1 y2 pk_us ⟨tk_a0 _ _ _ _ _ _ rfl, tk_c0 (fun c hc => fl_in (by omega) (by omega)) (fun c hc => fl_in (by omega) (by omega)), tk_s0 _ _ _ _ _ _ rfl, trivial, up b_oc _ 123, up b_cc _ 125, fun _ t ht => absurd ht (by omega)⟩ rfl (by omega)
    refine ⟨g_ol', g_cl', g_newOl', g_newCl', g_tagName', g_parseErr', g_openCount', b_removed', b_tType', b_tA', b_tB', b_tName', b_tMatch', b_tCount', b_oc', b_cc', b_newO', b_newC', b_openName', b_openTok', fr_tr ?_ w1, w2, w3, fun post h => ys_p hs y2 ⟨_, w4 post h⟩⟩
    exact ⟨fun s' z => pk_un z, fun s' c z w => fl_out (by omega), fun s' j z w => ⟨rfl, rfl, rfl, rfl, rfl⟩⟩
end ALL
theorem irT_cmp {ln : Nat → Nat} {tx tl ss K N E G K' N' E' G' : Nat → Int32} (h : ir_T ln tx tl ss K N E G) {s : Nat} {r : Int32} (hs : s < 4) (hfr : ∀ j, j < s * 96 ∨ s * 96 + 96 ≤ j → K' j = K j ∧ N' j = N j ∧ E' j = E j ∧ G' j = G j) (hc : r = 0 → cp_L s (ln s) tx K' N' E' G') : ir_T ln tx tl (upd ss s r) K' N' E' G' := by
  refine ⟨h.1, h.2.1, fun s' h' z => ?_⟩
  by_cases e : s' = s
  · rw [e, pk_us] at z
    rw [e]
    exact hc z
  · rw [pk_un e] at z
    refine cp_cg (h.1 s' h').1 (h.2.2 s' h' z) (fun c hc => ?_)
    obtain ⟨a1, a2, a3, a4⟩ := hfr (s' * 96 + c) (by omega)
    exact ⟨rfl, a1, a2, a3, a4⟩
theorem i_vc_compile {k : Nat} {u : SX} {v : SY} (I : i_Rel k u v) (hk : k + 4 ≤ 2049) (v1 : Int32) : wpX_compile (fun r u' => wpY_compile (fun r' v' => r' = r ∧ i_Rel (k + 4) u' v') v v1) u v1 := by
  refine ir_el (P := fun u v => wpX_compile (fun r u' => wpY_compile (fun r' v' => r' = r ∧ i_Rel (k + 4) u' v') v v1) u v1) I ?_
  intro f_openMarkLength f_closeMarkLength f_openCount f_compileFrom f_compileTo f_frameCount f_valueTextLength f_renderAt f_renderTo f_returnAt f_finished f_overflowed a_text a_cellKind a_cellName a_tagEnd a_sectionEnd a_textLength a_slotStatus a_slotError a_openMark a_closeMark a_openTags a_valueKind a_amount a_parts a_fieldValues a_out a_frameValue a_frameList a_frameNext a_frameBody a_valueText g_ol g_cl g_newOl g_newCl g_tagName g_parseErr g_openCount g_fn g_cn b_removed b_tType b_tA b_tB b_tName b_tMatch b_tCount b_oc b_cc b_newO b_newC b_openName b_openTok b_vKind b_vNum b_vCnt b_vStr b_vItem b_vKey b_vVal b_fv b_cKind b_cSlot b_cTok b_cVal b_cIdx b_dig ln nv oc cap kd ct hc1 hc2 hoc hT hV
  rcases pk_ix v1 (n := 4) (by omega) with h | h | ⟨s, hs, rfl⟩
  · unfold wpX_compile wpY_compile
    exact xl_nslot (Or.inl h) (br_t rfl (br_t h ⟨rfl, ir_mk hc1 hc2 hoc hT hV⟩))
  · unfold wpX_compile wpY_compile
    exact xl_nslot (Or.inr h) (br_t rfl (br_c (fun _ => ⟨rfl, ir_mk hc1 hc2 hoc hT hV⟩) (fun _ => br_f (fun z => absurd (Int32.le_trans h z) (by decide)) ⟨rfl, ir_mk hc1 hc2 hoc hT hV⟩)))
  · have hl := hT.1 s hs
    have e : (nI s).toNatClampNeg = s := nI_clamp (by omega)
    obtain ⟨r, pe, f1, f2, f3, K', N', E', G', oM', cM', oT', i1, i2, i3, i4⟩ := cm_all (f_openMarkLength := f_openMarkLength) (f_closeMarkLength := f_closeMarkLength) (f_openCount := f_openCount) (f_compileFrom := f_compileFrom) (f_compileTo := f_compileTo) (f_valueCount := nI nv) (f_outCap := nI cap) (f_outCount := nI oc) (f_frameCount := f_frameCount) (f_valueTextLength := f_valueTextLength) (f_renderAt := f_renderAt) (f_renderTo := f_renderTo) (f_returnAt := f_returnAt) (f_finished := f_finished) (f_overflowed := f_overflowed) (a_text := a_text) (a_cellKind := a_cellKind) (a_cellName := a_cellName) (a_tagEnd := a_tagEnd) (a_sectionEnd := a_sectionEnd) (a_textLength := a_textLength) (a_slotStatus := a_slotStatus) (a_slotError := a_slotError) (a_openMark := a_openMark) (a_closeMark := a_closeMark) (a_openTags := a_openTags) (a_valueKind := a_valueKind) (a_amount := a_amount) (a_parts := a_parts) (a_fieldValues := a_fieldValues) (a_out := a_out) (a_frameValue := a_frameValue) (a_frameList := a_frameList) (a_frameNext := a_frameNext) (a_frameBody := a_frameBody) (a_valueText := a_valueText) hs hl.1 hl.2 hT.2.1
    obtain ⟨g_ol', g_cl', g_newOl', g_newCl', g_tagName', g_parseErr', g_openCount', b_removed', b_tType', b_tA', b_tB', b_tName', b_tMatch', b_tCount', b_oc', b_cc', b_newO', b_newC', b_openName', b_openTok', w1, w2, w3, w4⟩ := i4 g_ol g_cl g_newOl g_newCl g_tagName g_parseErr g_openCount (nI nv) (nI oc) (nI cap) g_fn g_cn a_text a_textLength a_slotStatus a_slotError b_removed b_tType b_tA b_tB b_tName b_tMatch b_tCount b_oc b_cc b_newO b_newC b_openName b_openTok b_vKind b_vNum b_vCnt b_vStr b_vItem b_vKey b_vVal a_out b_fv b_cKind b_cSlot b_cTok b_cVal b_cIdx b_dig (fun i _ => rfl) hl.2
    refine i3 _ ?_
    unfold wpY_compile
    refine br_f (nI_pos (by omega)) (br_t (nI_le (b := 3) (by omega) (by decide)) (w4 _ ⟨vp_in_nI hs (by omega), nm_r (by rw [e]) ⟨fun z => ⟨vp_in_nI hs (by omega), nm_r (e' := upd a_slotError s pe) (by rw [e, i2 z]) ⟨rfl, ?_⟩⟩, fun z => ⟨vp_in_nI hs (by omega), nm_r (e' := upd a_slotError s pe) (by rw [e, w2 z]) ⟨rfl, ?_⟩⟩⟩⟩))
    · refine ir_mk hc1 hc2 hoc (irT_cmp hT hs i1 (fun z2 => ?_)) hV
      unfold cp_L
      intro g_ol g_cl g_newOl g_newCl g_tagName g_parseErr g_openCount g_nVals g_outLen g_outCap g_fn g_cn b_text b_len b_stat b_errPos b_removed b_tType b_tA b_tB b_tName b_tMatch b_tCount b_oc b_cc b_newO b_newC b_openName b_openTok b_vKind b_vNum b_vCnt b_vStr b_vItem b_vKey b_vVal b_out b_fv b_cKind b_cSlot b_cTok b_cVal b_cIdx b_dig q1 q2
      obtain ⟨g_ol', g_cl', g_newOl', g_newCl', g_tagName', g_parseErr', g_openCount', b_removed', b_tType', b_tA', b_tB', b_tName', b_tMatch', b_tCount', b_oc', b_cc', b_newO', b_newC', b_openName', b_openTok', u1, u2, u3, u4⟩ := i4 g_ol g_cl g_newOl g_newCl g_tagName g_parseErr g_openCount g_nVals g_outLen g_outCap g_fn g_cn b_text b_len b_stat b_errPos b_removed b_tType b_tA b_tB b_tName b_tMatch b_tCount b_oc b_cc b_newO b_newC b_openName b_openTok b_vKind b_vNum b_vCnt b_vStr b_vItem b_vKey b_vVal b_out b_fv b_cKind b_cSlot b_cTok b_cVal b_cIdx b_dig q1 q2
      exact ⟨g_ol', g_cl', g_newOl', g_newCl', g_tagName', g_parseErr', g_openCount', b_removed', b_tType', b_tA', b_tB', b_tName', b_tMatch', b_tCount', b_oc', b_cc', b_newO', b_newC', b_openName', b_openTok', z ▸ u4, u1.1, u1.2.1, u1.2.2, u3 z⟩
    · exact ir_mk hc1 hc2 hoc (irT_cmp hT hs i1 (fun z2 => absurd z2 z)) hV
end LLCM
end
section
section LLEX
variable {f_openMarkLength f_closeMarkLength f_openCount f_compileFrom f_compileTo f_valueCount f_outCap f_outCount f_frameCount f_valueTextLength f_renderAt f_renderTo f_returnAt f_finished f_overflowed : Int32} {a_text a_cellKind a_cellName a_tagEnd a_sectionEnd a_textLength a_slotStatus a_slotError a_openMark a_closeMark a_openTags a_valueKind a_amount a_parts a_fieldValues a_out a_frameValue a_frameList a_frameNext a_frameBody a_valueText : Nat → Int32} {cap : Nat} {t : (Nat → Int32) × Nat × Int32}
theorem xe_1 {post : SX → Prop} {c : Int32} (hc : cap ≤ 256) (g : em_g cap t) (h : post (f_openMarkLength, f_closeMarkLength, f_openCount, f_compileFrom, f_compileTo, f_valueCount, nI cap, nI (em_1 cap t c).2.1, f_frameCount, f_valueTextLength, f_renderAt, f_renderTo, f_returnAt, f_finished, (em_1 cap t c).2.2, a_text, a_cellKind, a_cellName, a_tagEnd, a_sectionEnd, a_textLength, a_slotStatus, a_slotError, a_openMark, a_closeMark, a_openTags, a_valueKind, a_amount, a_parts, a_fieldValues, (em_1 cap t c).1, a_frameValue, a_frameList, a_frameNext, a_frameBody, a_valueText)) : wpX_emit post (f_openMarkLength, f_closeMarkLength, f_openCount, f_compileFrom, f_compileTo, f_valueCount, nI cap, nI (t).2.1, f_frameCount, f_valueTextLength, f_renderAt, f_renderTo, f_returnAt, f_finished, (t).2.2, a_text, a_cellKind, a_cellName, a_tagEnd, a_sectionEnd, a_textLength, a_slotStatus, a_slotError, a_openMark, a_closeMark, a_openTags, a_valueKind, a_amount, a_parts, a_fieldValues, (t).1, a_frameValue, a_frameList, a_frameNext, a_frameBody, a_valueText) c := by
  have hk := g.1
  unfold em_1 at h
  refine pk_lt t.2.1 cap (fun z => ⟨vp_in_nI (by omega) (by omega), nm_r (by rw [nI_clamp (by omega)]) (nm_r (nI_1 _) ?_)⟩) (fun z => ?_)
  · rw [if_neg (by omega)] at h; exact h
  · rw [if_pos z] at h; exact h
theorem xe_ent {post : SX → Prop} {p0 p1 p2 p3 : Int32} (hc : cap ≤ 256) (g : em_g cap t) (h : post (f_openMarkLength, f_closeMarkLength, f_openCount, f_compileFrom, f_compileTo, f_valueCount, nI cap, nI (em_l cap t ([38, p0, p1] ++ ((if p2 = 0 then [] else [p2]) ++ ((if p3 = 0 then [] else [p3]) ++ [59])))).2.1, f_frameCount, f_valueTextLength, f_renderAt, f_renderTo, f_returnAt, f_finished, (em_l cap t ([38, p0, p1] ++ ((if p2 = 0 then [] else [p2]) ++ ((if p3 = 0 then [] else [p3]) ++ [59])))).2.2, a_text, a_cellKind, a_cellName, a_tagEnd, a_sectionEnd, a_textLength, a_slotStatus, a_slotError, a_openMark, a_closeMark, a_openTags, a_valueKind, a_amount, a_parts, a_fieldValues, (em_l cap t ([38, p0, p1] ++ ((if p2 = 0 then [] else [p2]) ++ ((if p3 = 0 then [] else [p3]) ++ [59])))).1, a_frameValue, a_frameList, a_frameNext, a_frameBody, a_valueText)) : wpX_emitEntity post (f_openMarkLength, f_closeMarkLength, f_openCount, f_compileFrom, f_compileTo, f_valueCount, nI cap, nI (t).2.1, f_frameCount, f_valueTextLength, f_renderAt, f_renderTo, f_returnAt, f_finished, (t).2.2, a_text, a_cellKind, a_cellName, a_tagEnd, a_sectionEnd, a_textLength, a_slotStatus, a_slotError, a_openMark, a_closeMark, a_openTags, a_valueKind, a_amount, a_parts, a_fieldValues, (t).1, a_frameValue, a_frameList, a_frameNext, a_frameBody, a_valueText) p0 p1 p2 p3 := by
  have g1 := em_g1 g 38
  have g2 := em_g1 g1 p0
  have g3 := em_g1 g2 p1
  have k25 : ∀ t' : (Nat → Int32) × Nat × Int32, em_g cap t' → post (f_openMarkLength, f_closeMarkLength, f_openCount, f_compileFrom, f_compileTo, f_valueCount, nI cap, nI (em_l cap t' ((if p3 = 0 then [] else [p3]) ++ [59])).2.1, f_frameCount, f_valueTextLength, f_renderAt, f_renderTo, f_returnAt, f_finished, (em_l cap t' ((if p3 = 0 then [] else [p3]) ++ [59])).2.2, a_text, a_cellKind, a_cellName, a_tagEnd, a_sectionEnd, a_textLength, a_slotStatus, a_slotError, a_openMark, a_closeMark, a_openTags, a_valueKind, a_amount, a_parts, a_fieldValues, (em_l cap t' ((if p3 = 0 then [] else [p3]) ++ [59])).1, a_frameValue, a_frameList, a_frameNext, a_frameBody, a_valueText) → wX_emitEntity_25 post p3 f_openMarkLength f_closeMarkLength f_openCount f_compileFrom f_compileTo f_valueCount (nI cap) (nI (t').2.1) f_frameCount f_valueTextLength f_renderAt f_renderTo f_returnAt f_finished ((t').2.2) a_text a_cellKind a_cellName a_tagEnd a_sectionEnd a_textLength a_slotStatus a_slotError a_openMark a_closeMark a_openTags a_valueKind a_amount a_parts a_fieldValues ((t').1) a_frameValue a_frameList a_frameNext a_frameBody a_valueText := by
    intro t' g' h'
    by_cases z : p3 = 0
    · rw [if_pos z] at h'
      exact br_t z (xe_1 hc g' h')
    · rw [if_neg z] at h'
      exact br_f z (xe_1 hc g' (xe_1 hc (em_g1 g' p3) h'))
  unfold wpX_emitEntity
  refine xe_1 hc g (xe_1 hc g1 (xe_1 hc g2 ?_))
  by_cases z : p2 = 0
  · rw [if_pos z] at h
    exact br_t z (k25 _ g3 h)
  · rw [if_neg z] at h
    exact br_f z (xe_1 hc g3 (k25 _ (em_g1 g3 p2) h))
theorem xe_esc {post : SX → Prop} {c : Int32} (hc : cap ≤ 256) (g : em_g cap t) (h : post (f_openMarkLength, f_closeMarkLength, f_openCount, f_compileFrom, f_compileTo, f_valueCount, nI cap, nI (em_l cap t (em_e c)).2.1, f_frameCount, f_valueTextLength, f_renderAt, f_renderTo, f_returnAt, f_finished, (em_l cap t (em_e c)).2.2, a_text, a_cellKind, a_cellName, a_tagEnd, a_sectionEnd, a_textLength, a_slotStatus, a_slotError, a_openMark, a_closeMark, a_openTags, a_valueKind, a_amount, a_parts, a_fieldValues, (em_l cap t (em_e c)).1, a_frameValue, a_frameList, a_frameNext, a_frameBody, a_valueText)) : wpX_emitEscaped post (f_openMarkLength, f_closeMarkLength, f_openCount, f_compileFrom, f_compileTo, f_valueCount, nI cap, nI (t).2.1, f_frameCount, f_valueTextLength, f_renderAt, f_renderTo, f_returnAt, f_finished, (t).2.2, a_text, a_cellKind, a_cellName, a_tagEnd, a_sectionEnd, a_textLength, a_slotStatus, a_slotError, a_openMark, a_closeMark, a_openTags, a_valueKind, a_amount, a_parts, a_fieldValues, (t).1, a_frameValue, a_frameList, a_frameNext, a_frameBody, a_valueText) c := by
  unfold wpX_emitEscaped
  unfold em_e at h
  by_cases a1 : c = 38
  · rw [if_pos a1] at h
    subst a1
    exact br_f (by decide) (br_t rfl (xe_ent hc g h))
  · rw [if_neg a1] at h
    by_cases a2 : c = 60
    · rw [if_pos a2] at h
      subst a2
      exact br_f (by decide) (br_f (by decide) (br_f (by decide) (br_t rfl (xe_ent hc g h))))
    · rw [if_neg a2] at h
      by_cases a3 : c = 62
      · rw [if_pos a3] at h
        subst a3
        exact br_f (by decide) (br_f (by decide) (br_f (by decide) (br_f (by decide) (br_t rfl (xe_ent hc g h)))))
      · rw [if_neg a3] at h
        by_cases a4 : c = 34
        · rw [if_pos a4] at h
          subst a4
          exact br_t rfl (xe_ent hc g h)
        · rw [if_neg a4] at h
          by_cases a5 : c = 39
          · rw [if_pos a5] at h
            subst a5
            exact br_f (by decide) (br_f (by decide) (br_t rfl (xe_ent hc g h)))
          · rw [if_neg a5] at h
            exact br_f a4 (br_f a1 (br_f a5 (br_f a2 (br_f a3 (xe_1 hc g h)))))
theorem xe_var {post : SX → Prop} {vl : Nat} {x3 : Int32} {esc : Bool} (hc : cap ≤ 256) (hv : vl ≤ 11) (hx : (x3 = 0 ∧ esc = true) ∨ (x3 = 1 ∧ esc = false)) : ∀ d i (t : (Nat → Int32) × Nat × Int32), em_g cap t → i + d = vl → post (f_openMarkLength, f_closeMarkLength, f_openCount, f_compileFrom, f_compileTo, f_valueCount, nI cap, nI (em_l cap t (em_u esc a_valueText d i)).2.1, f_frameCount, nI vl, f_renderAt, f_renderTo, f_returnAt, f_finished, (em_l cap t (em_u esc a_valueText d i)).2.2, a_text, a_cellKind, a_cellName, a_tagEnd, a_sectionEnd, a_textLength, a_slotStatus, a_slotError, a_openMark, a_closeMark, a_openTags, a_valueKind, a_amount, a_parts, a_fieldValues, (em_l cap t (em_u esc a_valueText d i)).1, a_frameValue, a_frameList, a_frameNext, a_frameBody, a_valueText) → wX_emitVariable_35 post x3 (d + 1) (nI i) f_openMarkLength f_closeMarkLength f_openCount f_compileFrom f_compileTo f_valueCount (nI cap) (nI (t).2.1) f_frameCount (nI vl) f_renderAt f_renderTo f_returnAt f_finished ((t).2.2) a_text a_cellKind a_cellName a_tagEnd a_sectionEnd a_textLength a_slotStatus a_slotError a_openMark a_closeMark a_openTags a_valueKind a_amount a_parts a_fieldValues ((t).1) a_frameValue a_frameList a_frameNext a_frameBody a_valueText := by
  intro d
  induction d with
  | zero => intro i t g hi h; exact br_t (nI_le (by omega) (by omega)) h
  | succ d ih =>
    intro i t g hi h
    rw [em_us, em_a] at h
    have e : (nI i).toNatClampNeg = i := nI_clamp (by omega)
    refine br_f (nI_ge (by omega) (by omega)) ?_
    rcases hx with ⟨a, b⟩ | ⟨a, b⟩
    · subst b
      refine br_t a ⟨vp_in_nI (by omega) (by omega), ?_⟩
      rw [e]
      exact xe_esc hc g (nm_r (nI_1 _) (ih (i + 1) _ (em_gl _ g) (by omega) h))
    · subst b
      refine br_f (by rw [a]; decide) ⟨vp_in_nI (by omega) (by omega), ?_⟩
      rw [e]
      exact xe_1 hc g (nm_r (nI_1 _) (ih (i + 1) _ (em_g1 g _) (by omega) h))
theorem xt_ch {post : SX → Prop} {l : Nat} {c : Int32} (hl : l < 11) (h : post (f_openMarkLength, f_closeMarkLength, f_openCount, f_compileFrom, f_compileTo, f_valueCount, f_outCap, f_outCount, f_frameCount, nI (l + 1), f_renderAt, f_renderTo, f_returnAt, f_finished, f_overflowed, a_text, a_cellKind, a_cellName, a_tagEnd, a_sectionEnd, a_textLength, a_slotStatus, a_slotError, a_openMark, a_closeMark, a_openTags, a_valueKind, a_amount, a_parts, a_fieldValues, a_out, a_frameValue, a_frameList, a_frameNext, a_frameBody, upd a_valueText l c)) : wpX_takeChar post (f_openMarkLength, f_closeMarkLength, f_openCount, f_compileFrom, f_compileTo, f_valueCount, f_outCap, f_outCount, f_frameCount, nI l, f_renderAt, f_renderTo, f_returnAt, f_finished, f_overflowed, a_text, a_cellKind, a_cellName, a_tagEnd, a_sectionEnd, a_textLength, a_slotStatus, a_slotError, a_openMark, a_closeMark, a_openTags, a_valueKind, a_amount, a_parts, a_fieldValues, a_out, a_frameValue, a_frameList, a_frameNext, a_frameBody, a_valueText) c :=
  br_f (nI_ge (b := 11) hl (by decide)) ⟨vp_in_nI hl (by omega), nm_r (by rw [nI_clamp (by omega)]) (nm_r (nI_1 _) h)⟩
theorem xt_dc {post : Int32 → Prop} {m : Int32} : ∀ d c, c + d = 10 → post (nI (em_q m d c)) → wX_digitCount_7 post f_openMarkLength f_closeMarkLength f_openCount f_compileFrom f_compileTo f_valueCount f_outCap f_outCount f_frameCount f_valueTextLength f_renderAt f_renderTo f_returnAt f_finished f_overflowed a_text a_cellKind a_cellName a_tagEnd a_sectionEnd a_textLength a_slotStatus a_slotError a_openMark a_closeMark a_openTags a_valueKind a_amount a_parts a_fieldValues a_out a_frameValue a_frameList a_frameNext a_frameBody a_valueText (d + 1) (nI c) (ll_it m c) := by
  intro d
  induction d with
  | zero =>
    intro c hc h
    have e : c = 10 := by omega
    subst e
    exact br_c (fun _ => h) (fun _ => br_t (nI_le (a := 10) (b := 10) (by omega) (by decide)) h)
  | succ d ih =>
    intro c hc h
    rw [em_qs] at h
    by_cases z : ll_it m c = 0
    · rw [if_pos z] at h
      exact br_t z h
    · rw [if_neg z] at h
      exact br_f z (br_f (nI_ge (b := 10) (by omega) (by decide)) (nm_r (nI_1 _) ⟨by decide, nm_r (e' := ll_it m (c + 1)) rfl (ih (c + 1) (by omega) h)⟩))
theorem xt_44 {m x4 : Int32} {sg dc : Nat} (hs : sg ≤ 1) (hd : dc ≤ 10) : ∀ d (vt : Nat → Int32), d ≤ dc → (∀ i, d ≤ i → i < dc → vt (sg + i) = ll_dg m (dc - 1 - i)) → (sg = 1 → vt 0 = 45) → ∃ vt' : Nat → Int32, (∀ i, i < dc → vt' (sg + i) = ll_dg m (dc - 1 - i)) ∧ (sg = 1 → vt' 0 = 45) ∧ ∀ post : SX → Prop, post (f_openMarkLength, f_closeMarkLength, f_openCount, f_compileFrom, f_compileTo, f_valueCount, f_outCap, f_outCount, f_frameCount, x4, f_renderAt, f_renderTo, f_returnAt, f_finished, f_overflowed, a_text, a_cellKind, a_cellName, a_tagEnd, a_sectionEnd, a_textLength, a_slotStatus, a_slotError, a_openMark, a_closeMark, a_openTags, a_valueKind, a_amount, a_parts, a_fieldValues, a_out, a_frameValue, a_frameList, a_frameNext, a_frameBody, vt') → wX_takeNumber_44 post (nI sg) x4 f_openMarkLength f_closeMarkLength f_openCount f_compileFrom f_compileTo f_valueCount f_outCap f_outCount f_frameCount f_valueTextLength f_renderAt f_renderTo f_returnAt f_finished f_overflowed (d + 1) (ll_it m (dc - d)) (nI (sg + d) - 1) a_text a_cellKind a_cellName a_tagEnd a_sectionEnd a_textLength a_slotStatus a_slotError a_openMark a_closeMark a_openTags a_valueKind a_amount a_parts a_fieldValues a_out a_frameValue a_frameList a_frameNext a_frameBody vt := by
  intro d
  induction d with
  | zero =>
    intro vt _ h1 h2
    refine ⟨vt, fun i hi => h1 i (by omega) hi, h2, fun post h => br_t ?_ h⟩
    have d2 : ∀ sg, sg ≤ 1 → nI (sg + 0) - 1 < nI sg := by decide
    exact d2 sg hs
  | succ d ih =>
    intro vt hdc h1 h2
    have q1 : ∀ i, d ≤ i → i < dc → upd vt (sg + d) (ll_dg m (dc - 1 - d)) (sg + i) = ll_dg m (dc - 1 - i) := fun i i1 i2 => by
      by_cases w : i = d
      · rw [w, pk_us]
      · rw [pk_un (by omega)]; exact h1 i (by omega) i2
    have q2 : sg = 1 → upd vt (sg + d) (ll_dg m (dc - 1 - d)) 0 = 45 := fun z => by
      rw [pk_un (by omega)]; exact h2 z
    obtain ⟨vt', a, b, c⟩ := ih (upd vt (sg + d) (ll_dg m (dc - 1 - d))) (by omega) q1 q2
    refine ⟨vt', a, b, fun post h => ?_⟩
    have e : nI (sg + (d + 1)) - 1 = nI (sg + d) := nI_pred (sg + d)
    rw [e]
    refine br_f (nI_nlt (by omega) (by omega)) ⟨by decide, vp_in_nI (by omega) (by omega), nm_r (e' := upd vt (sg + d) (ll_dg m (dc - 1 - d))) ?_ ⟨by decide, nm_r (e' := ll_it m (dc - d)) ?_ (nm_r (Int32.sub_eq_add_neg _ _).symm (c post h))⟩⟩
    · rw [nI_clamp (by omega), show dc - (d + 1) = dc - 1 - d from by omega]
      rfl
    · rw [show dc - d = (dc - (d + 1)) + 1 from by omega]
      rfl
end LLEX
end
section
section LLTX2
/-- the int at or below zero whose digits are written -/
def tx_m (a : Int32) : Int32 := if 0 ≤ a then -a else a
theorem tx_m0 (a : Int32) : (tx_m a).toInt ≤ 0 := by
  unfold tx_m
  have h0 : (0 : Int32).toInt = 0 := by decide
  by_cases z : 0 ≤ a
  · rw [if_pos z, Int32.toInt_neg]
    have h1 : 0 ≤ a.toInt := by
      have := Int32.le_iff_toInt_le.mp z
      omega
    have h2 := a.toInt_lt
    rw [Int.bmod_eq_of_le (by omega) (by omega)]
    omega
  · rw [if_neg z]
    have h1 : ¬ (0 ≤ a.toInt) := fun w => z (Int32.le_iff_toInt_le.mpr (by omega))
    omega
/-- the text of an int -/
def tx_n (a : Int32) : List Int32 := (if 0 ≤ a then [] else [45]) ++ em_d (ll_dg (tx_m a)) (em_q (tx_m a) 9 1)
/-- the text of the value v -/
def tx_l (esc : Bool) (kd ct : Nat → Nat) (am pt : Nat → Int32) (v : Nat) : List Int32 :=
  if kd v = 1 then [102, 97, 108, 115, 101] else if kd v = 2 then [116, 114, 117, 101] else if kd v = 3 then tx_n (am v) else if kd v = 4 then em_u esc (fun i => pt (v * 8 + i)) (ct v) 0 else []
variable {f_openMarkLength f_closeMarkLength f_openCount f_compileFrom f_compileTo f_valueCount f_outCap f_outCount f_frameCount f_valueTextLength f_renderAt f_renderTo f_returnAt f_finished f_overflowed : Int32} {a_text a_cellKind a_cellName a_tagEnd a_sectionEnd a_textLength a_slotStatus a_slotError a_openMark a_closeMark a_openTags a_valueKind a_amount a_parts a_fieldValues a_out a_frameValue a_frameList a_frameNext a_frameBody a_valueText : Nat → Int32}
theorem xt_num {esc : Bool} (a : Int32) : ∃ (vt' : Nat → Int32) (vl : Nat), vl ≤ 11 ∧ em_u esc vt' vl 0 = tx_n a ∧ ∀ post : SX → Prop, post (f_openMarkLength, f_closeMarkLength, f_openCount, f_compileFrom, f_compileTo, f_valueCount, f_outCap, f_outCount, f_frameCount, nI vl, f_renderAt, f_renderTo, f_returnAt, f_finished, f_overflowed, a_text, a_cellKind, a_cellName, a_tagEnd, a_sectionEnd, a_textLength, a_slotStatus, a_slotError, a_openMark, a_closeMark, a_openTags, a_valueKind, a_amount, a_parts, a_fieldValues, a_out, a_frameValue, a_frameList, a_frameNext, a_frameBody, vt') → wpX_takeNumber post (f_openMarkLength, f_closeMarkLength, f_openCount, f_compileFrom, f_compileTo, f_valueCount, f_outCap, f_outCount, f_frameCount, f_valueTextLength, f_renderAt, f_renderTo, f_returnAt, f_finished, f_overflowed, a_text, a_cellKind, a_cellName, a_tagEnd, a_sectionEnd, a_textLength, a_slotStatus, a_slotError, a_openMark, a_closeMark, a_openTags, a_valueKind, a_amount, a_parts, a_fieldValues, a_out, a_frameValue, a_frameList, a_frameNext, a_frameBody, a_valueText) a := by
  have qb := em_qb (tx_m a) 9 1
  have hd := em_digit (esc := esc) (tx_m0 a)
  obtain ⟨sg, hsg, hz⟩ : ∃ sg, sg ≤ 1 ∧ ((0 ≤ a ∧ sg = 0) ∨ (¬ 0 ≤ a ∧ sg = 1)) := by
    by_cases z : 0 ≤ a
    · exact ⟨0, by omega, Or.inl ⟨z, rfl⟩⟩
    · exact ⟨1, by omega, Or.inr ⟨z, rfl⟩⟩
  obtain ⟨vt', a1, a2, a3⟩ := xt_44 (f_openMarkLength := f_openMarkLength) (f_closeMarkLength := f_closeMarkLength) (f_openCount := f_openCount) (f_compileFrom := f_compileFrom) (f_compileTo := f_compileTo) (f_valueCount := f_valueCount) (f_outCap := f_outCap) (f_outCount := f_outCount) (f_frameCount := f_frameCount) (f_valueTextLength := f_valueTextLength) (f_renderAt := f_renderAt) (f_renderTo := f_renderTo) (f_returnAt := f_returnAt) (f_finished := f_finished) (f_overflowed := f_overflowed) (a_text := a_text) (a_cellKind := a_cellKind) (a_cellName := a_cellName) (a_tagEnd := a_tagEnd) (a_sectionEnd := a_sectionEnd) (a_textLength := a_textLength) (a_slotStatus := a_slotStatus) (a_slotError := a_slotError) (a_openMark := a_openMark) (a_closeMark := a_closeMark) (a_openTags := a_openTags) (a_valueKind := a_valueKind) (a_amount := a_amount) (a_parts := a_parts) (a_fieldValues := a_fieldValues) (a_out := a_out) (a_frameValue := a_frameValue) (a_frameList := a_frameList) (a_frameNext := a_frameNext) (a_frameBody := a_frameBody) (m := tx_m a) (x4 := nI (sg + em_q (tx_m a) 9 1)) (sg := sg) (dc := em_q (tx_m a) 9 1) hsg (by omega) (em_q (tx_m a) 9 1) (upd a_valueText 0 45) (Nat.le_refl _) (fun i i1 i2 => absurd i1 (by omega)) (fun _ => pk_us)
  have hdl : em_u esc vt' (em_q (tx_m a) 9 1) sg = em_d (ll_dg (tx_m a)) (em_q (tx_m a) 9 1) := em_ud (em_q (tx_m a) 9 1) sg (fun j hj => a1 j hj) (fun k _ => hd k)
  refine ⟨vt', sg + em_q (tx_m a) 9 1, by omega, ?_, fun post h => ?_⟩
  · unfold tx_n
    rcases hz with ⟨z, w⟩ | ⟨z, w⟩
    · subst w
      rw [if_pos z, Nat.zero_add]
      exact hdl
    · subst w
      rw [if_neg z, Nat.add_comm 1, em_us, a2 rfl, em_plain (by decide) (by decide) (by decide) (by decide) (by decide), hdl]
  · have g20 : wX_takeNumber_20 post (tx_m a) (nI sg) f_openMarkLength f_closeMarkLength f_openCount f_compileFrom f_compileTo f_valueCount f_outCap f_outCount f_frameCount f_valueTextLength f_renderAt f_renderTo f_returnAt f_finished f_overflowed a_text a_cellKind a_cellName a_tagEnd a_sectionEnd a_textLength a_slotStatus a_slotError a_openMark a_closeMark a_openTags a_valueKind a_amount a_parts a_fieldValues a_out a_frameValue a_frameList a_frameNext a_frameBody a_valueText := by
      unfold wX_takeNumber_20 wpX_digitCount
      refine ⟨by decide, nm_r (e' := ll_it (tx_m a) 1) rfl ⟨_, xt_dc 9 1 rfl (nm_r (nI_add _ _) (nm_e (nm_e ?_)))⟩⟩
      have r := a3 post h
      rw [Nat.sub_self] at r
      exact ⟨_, r⟩
    unfold wpX_takeNumber
    rcases hz with ⟨z, w⟩ | ⟨z, w⟩
    · subst w
      rw [show tx_m a = -a from if_pos z] at g20
      exact br_t z (br_t z g20)
    · subst w
      rw [show tx_m a = a from if_neg z] at g20
      exact br_f z (br_f z g20)
theorem xt_str {post : SX → Prop} {j m : Nat} (hj : j < 32) (hm : m ≤ 8) (ham : a_amount (j + 1) = nI m) (h : post (f_openMarkLength, f_closeMarkLength, f_openCount, f_compileFrom, f_compileTo, f_valueCount, f_outCap, f_outCount, f_frameCount, nI m, f_renderAt, f_renderTo, f_returnAt, f_finished, f_overflowed, a_text, a_cellKind, a_cellName, a_tagEnd, a_sectionEnd, a_textLength, a_slotStatus, a_slotError, a_openMark, a_closeMark, a_openTags, a_valueKind, a_amount, a_parts, a_fieldValues, a_out, a_frameValue, a_frameList, a_frameNext, a_frameBody, cy_f a_valueText (fun i => a_parts ((j + 1) * 8 + i)) m)) : ∀ d i, i + d = m → wX_takeText_55 post (nI (j + 1)) (d + 1) (nI i) f_openMarkLength f_closeMarkLength f_openCount f_compileFrom f_compileTo f_valueCount f_outCap f_outCount f_frameCount (nI i) f_renderAt f_renderTo f_returnAt f_finished f_overflowed a_text a_cellKind a_cellName a_tagEnd a_sectionEnd a_textLength a_slotStatus a_slotError a_openMark a_closeMark a_openTags a_valueKind a_amount a_parts a_fieldValues a_out a_frameValue a_frameList a_frameNext a_frameBody (cy_f a_valueText (fun i => a_parts ((j + 1) * 8 + i)) i) := by
  intro d
  induction d with
  | zero =>
    intro i hi
    have e : i = m := by omega
    subst e
    refine ⟨vp_in_nI (by omega) (by omega), ?_⟩
    rw [nI_clamp (by omega), ham]
    exact br_t (nI_le (by omega) (by omega)) h
  | succ d ih =>
    intro i hi
    refine ⟨vp_in_nI (by omega) (by omega), ?_⟩
    rw [nI_clamp (show j + 1 < 2 ^ 31 from by omega), ham, la_m8, nI_add, nI_clamp (by omega)]
    refine br_f (nI_ge (by omega) (by omega)) ⟨vp_in_nI (by omega) (by omega), xt_ch (by omega) (nm_r (nI_1 _) ?_)⟩
    rw [cy_s (g := fun i => a_parts ((j + 1) * 8 + i))]
    exact ih (i + 1) (by omega)
theorem xt_txt {nv : Nat} {kd ct : Nat → Nat} {yk yn yc ys yi yq yv : Nat → Int32} {esc : Bool} (hV : vl_R nv kd ct a_valueKind a_amount a_parts a_fieldValues yk yn yc ys yi yq yv) {j : Nat} (hj : j < nv) : ∃ (vt' : Nat → Int32) (vl : Nat), vl ≤ 11 ∧ em_u esc vt' vl 0 = tx_l esc kd ct a_amount a_parts (j + 1) ∧ ∀ post : SX → Prop, post (f_openMarkLength, f_closeMarkLength, f_openCount, f_compileFrom, f_compileTo, nI nv, f_outCap, f_outCount, f_frameCount, nI vl, f_renderAt, f_renderTo, f_returnAt, f_finished, f_overflowed, a_text, a_cellKind, a_cellName, a_tagEnd, a_sectionEnd, a_textLength, a_slotStatus, a_slotError, a_openMark, a_closeMark, a_openTags, a_valueKind, a_amount, a_parts, a_fieldValues, a_out, a_frameValue, a_frameList, a_frameNext, a_frameBody, vt') → wpX_takeText post (f_openMarkLength, f_closeMarkLength, f_openCount, f_compileFrom, f_compileTo, nI nv, f_outCap, f_outCount, f_frameCount, f_valueTextLength, f_renderAt, f_renderTo, f_returnAt, f_finished, f_overflowed, a_text, a_cellKind, a_cellName, a_tagEnd, a_sectionEnd, a_textLength, a_slotStatus, a_slotError, a_openMark, a_closeMark, a_openTags, a_valueKind, a_amount, a_parts, a_fieldValues, a_out, a_frameValue, a_frameList, a_frameNext, a_frameBody, a_valueText) (nI (j + 1)) := by
  obtain ⟨g1, g2, g3, g4, g5, g6, g7, g8, g9, g10, g11, g12, g13⟩ := hV.2 j hj
  have hnv := hV.1
  have eC : (nI (j + 1)).toNatClampNeg = j + 1 := nI_clamp (by omega)
  unfold tx_l
  by_cases k1 : kd (j + 1) = 1
  · rw [if_pos k1]
    rw [k1] at g4
    refine ⟨upd (upd (upd (upd (upd a_valueText 0 102) 1 97) 2 108) 3 115) 4 101, 5, by omega, by cases esc <;> rfl, fun post h => ?_⟩
    · unfold wpX_takeText
      exact xl_kin hnv hj g4 (br_f (by decide) (br_f (by decide) (br_t rfl (xt_ch (l := 0) (by omega) (xt_ch (l := 1) (by omega) (xt_ch (l := 2) (by omega) (xt_ch (l := 3) (by omega) (xt_ch (l := 4) (by omega) h))))))))
  · rw [if_neg k1]
    by_cases k2 : kd (j + 1) = 2
    · rw [if_pos k2]
      rw [k2] at g4
      refine ⟨upd (upd (upd (upd a_valueText 0 116) 1 114) 2 117) 3 101, 4, by omega, by cases esc <;> rfl, fun post h => ?_⟩
      · unfold wpX_takeText
        exact xl_kin hnv hj g4 (br_f (by decide) (br_f (by decide) (br_f (by decide) (br_t rfl (xt_ch (l := 0) (by omega) (xt_ch (l := 1) (by omega) (xt_ch (l := 2) (by omega) (xt_ch (l := 3) (by omega) h))))))))
    · rw [if_neg k2]
      by_cases k3 : kd (j + 1) = 3
      · rw [if_pos k3]
        rw [k3] at g4
        obtain ⟨vt', vl, b1, b2, b3⟩ := xt_num (f_openMarkLength := f_openMarkLength) (f_closeMarkLength := f_closeMarkLength) (f_openCount := f_openCount) (f_compileFrom := f_compileFrom) (f_compileTo := f_compileTo) (f_valueCount := nI nv) (f_outCap := f_outCap) (f_outCount := f_outCount) (f_frameCount := f_frameCount) (f_valueTextLength := 0) (f_renderAt := f_renderAt) (f_renderTo := f_renderTo) (f_returnAt := f_returnAt) (f_finished := f_finished) (f_overflowed := f_overflowed) (a_text := a_text) (a_cellKind := a_cellKind) (a_cellName := a_cellName) (a_tagEnd := a_tagEnd) (a_sectionEnd := a_sectionEnd) (a_textLength := a_textLength) (a_slotStatus := a_slotStatus) (a_slotError := a_slotError) (a_openMark := a_openMark) (a_closeMark := a_closeMark) (a_openTags := a_openTags) (a_valueKind := a_valueKind) (a_amount := a_amount) (a_parts := a_parts) (a_fieldValues := a_fieldValues) (a_out := a_out) (a_frameValue := a_frameValue) (a_frameList := a_frameList) (a_frameNext := a_frameNext) (a_frameBody := a_frameBody) (a_valueText := a_valueText) (esc := esc) (a_amount (j + 1))
        refine ⟨vt', vl, b1, b2, fun post h => ?_⟩
        unfold wpX_takeText
        refine xl_kin hnv hj g4 (br_f (by decide) (br_f (by decide) (br_f (by decide) (br_f (by decide) (br_t rfl ⟨vp_in_nI (by omega) (by omega), ?_⟩)))))
        rw [eC]
        exact b3 _ h
      · rw [if_neg k3]
        by_cases k4 : kd (j + 1) = 4
        · rw [if_pos k4]
          rw [k4] at g4
          refine ⟨cy_f a_valueText (fun i => a_parts ((j + 1) * 8 + i)) (ct (j + 1)), ct (j + 1), by omega, em_ucg _ _ (fun i i1 i2 => cy_in (by omega)), fun post h => ?_⟩
          unfold wpX_takeText
          have r := xt_str (f_openMarkLength := f_openMarkLength) (f_closeMarkLength := f_closeMarkLength) (f_openCount := f_openCount) (f_compileFrom := f_compileFrom) (f_compileTo := f_compileTo) (f_valueCount := nI nv) (f_outCap := f_outCap) (f_outCount := f_outCount) (f_frameCount := f_frameCount) (f_renderAt := f_renderAt) (f_renderTo := f_renderTo) (f_returnAt := f_returnAt) (f_finished := f_finished) (f_overflowed := f_overflowed) (a_text := a_text) (a_cellKind := a_cellKind) (a_cellName := a_cellName) (a_tagEnd := a_tagEnd) (a_sectionEnd := a_sectionEnd) (a_textLength := a_textLength) (a_slotStatus := a_slotStatus) (a_slotError := a_slotError) (a_openMark := a_openMark) (a_closeMark := a_closeMark) (a_openTags := a_openTags) (a_valueKind := a_valueKind) (a_amount := a_amount) (a_parts := a_parts) (a_fieldValues := a_fieldValues) (a_out := a_out) (a_frameValue := a_frameValue) (a_frameList := a_frameList) (a_frameNext := a_frameNext) (a_frameBody := a_frameBody) (a_valueText := a_valueText) (post := post) (by omega) g3 (g8 (by omega)) h (ct (j + 1)) 0 (by omega)
          rw [cy_0] at r
          exact xl_kin hnv hj g4 (br_f (by decide) (br_f (by decide) (br_f (by decide) (br_f (by decide) (br_f (by decide) (br_t rfl ⟨_, r⟩))))))
        · rw [if_neg k4]
          refine ⟨a_valueText, 0, by omega, rfl, fun post h => ?_⟩
          unfold wpX_takeText
          exact xl_kin hnv hj g4 (br_f (nI_nlt (b := 1) (by omega) (by omega)) (br_t (nI_lt (a := 4) (by omega) (by omega)) h))
theorem xt_non {nv : Nat} {post : SX → Prop} (h : post (f_openMarkLength, f_closeMarkLength, f_openCount, f_compileFrom, f_compileTo, nI nv, f_outCap, f_outCount, f_frameCount, 0, f_renderAt, f_renderTo, f_returnAt, f_finished, f_overflowed, a_text, a_cellKind, a_cellName, a_tagEnd, a_sectionEnd, a_textLength, a_slotStatus, a_slotError, a_openMark, a_closeMark, a_openTags, a_valueKind, a_amount, a_parts, a_fieldValues, a_out, a_frameValue, a_frameList, a_frameNext, a_frameBody, a_valueText)) : wpX_takeText post (f_openMarkLength, f_closeMarkLength, f_openCount, f_compileFrom, f_compileTo, nI nv, f_outCap, f_outCount, f_frameCount, f_valueTextLength, f_renderAt, f_renderTo, f_returnAt, f_finished, f_overflowed, a_text, a_cellKind, a_cellName, a_tagEnd, a_sectionEnd, a_textLength, a_slotStatus, a_slotError, a_openMark, a_closeMark, a_openTags, a_valueKind, a_amount, a_parts, a_fieldValues, a_out, a_frameValue, a_frameList, a_frameNext, a_frameBody, a_valueText) 0 := by
  unfold wpX_takeText
  exact xl_kout (Or.inl (by decide)) (br_t (by decide) h)
end LLTX2
end
section
section LLEY
variable {g_ol g_cl g_newOl g_newCl g_tagName g_parseErr g_openCount g_nVals g_outLen g_outCap g_fn g_cn : Int32} {b_text b_len b_stat b_errPos b_removed b_tType b_tA b_tB b_tName b_tMatch b_tCount b_oc b_cc b_newO b_newC b_openName b_openTok b_vKind b_vNum b_vCnt b_vStr b_vItem b_vKey b_vVal b_out b_fv b_cKind b_cSlot b_cTok b_cVal b_cIdx b_dig : Nat → Int32} {cap : Nat}
theorem ye_1 {t : (Nat → Int32) × Nat × Int32} {post : Int32 → SY → Prop} {c : Int32} (hc : cap ≤ 256) (g : em_g cap t) (hz : t.2.2 = 0) (h1 : (em_1 cap t c).2.2 = 0 → post 1 (g_ol, g_cl, g_newOl, g_newCl, g_tagName, g_parseErr, g_openCount, g_nVals, nI (em_1 cap t c).2.1, nI cap, g_fn, g_cn, b_text, b_len, b_stat, b_errPos, b_removed, b_tType, b_tA, b_tB, b_tName, b_tMatch, b_tCount, b_oc, b_cc, b_newO, b_newC, b_openName, b_openTok, b_vKind, b_vNum, b_vCnt, b_vStr, b_vItem, b_vKey, b_vVal, (em_1 cap t c).1, b_fv, b_cKind, b_cSlot, b_cTok, b_cVal, b_cIdx, b_dig)) (h0 : ¬ (em_1 cap t c).2.2 = 0 → post 0 (g_ol, g_cl, g_newOl, g_newCl, g_tagName, g_parseErr, g_openCount, g_nVals, nI (em_1 cap t c).2.1, nI cap, g_fn, g_cn, b_text, b_len, b_stat, b_errPos, b_removed, b_tType, b_tA, b_tB, b_tName, b_tMatch, b_tCount, b_oc, b_cc, b_newO, b_newC, b_openName, b_openTok, b_vKind, b_vNum, b_vCnt, b_vStr, b_vItem, b_vKey, b_vVal, (em_1 cap t c).1, b_fv, b_cKind, b_cSlot, b_cTok, b_cVal, b_cIdx, b_dig)) : wpY_emit post (g_ol, g_cl, g_newOl, g_newCl, g_tagName, g_parseErr, g_openCount, g_nVals, nI (t).2.1, nI cap, g_fn, g_cn, b_text, b_len, b_stat, b_errPos, b_removed, b_tType, b_tA, b_tB, b_tName, b_tMatch, b_tCount, b_oc, b_cc, b_newO, b_newC, b_openName, b_openTok, b_vKind, b_vNum, b_vCnt, b_vStr, b_vItem, b_vKey, b_vVal, (t).1, b_fv, b_cKind, b_cSlot, b_cTok, b_cVal, b_cIdx, b_dig) c := by
  have hk := g.1
  unfold em_1 at h1 h0
  refine pk_lt t.2.1 cap (fun z => ⟨vp_in_nI (by omega) (by omega), nm_r (by rw [nI_clamp (by omega)]) (nm_r (nI_1 _) ?_)⟩) (fun z => ?_)
  · rw [if_neg (by omega)] at h1; exact h1 hz
  · rw [if_pos z] at h0; exact h0 (show ¬ (1 : Int32) = 0 from by decide)
theorem ye_h {t : (Nat → Int32) × Nat × Int32} {post : Int32 → SY → Prop} {c : Int32} {l : List Int32} (g : em_g cap t) (h0 : ¬ (em_l cap t (c :: l)).2.2 = 0 → post 0 (g_ol, g_cl, g_newOl, g_newCl, g_tagName, g_parseErr, g_openCount, g_nVals, nI (em_l cap t (c :: l)).2.1, nI cap, g_fn, g_cn, b_text, b_len, b_stat, b_errPos, b_removed, b_tType, b_tA, b_tB, b_tName, b_tMatch, b_tCount, b_oc, b_cc, b_newO, b_newC, b_openName, b_openTok, b_vKind, b_vNum, b_vCnt, b_vStr, b_vItem, b_vKey, b_vVal, (em_l cap t (c :: l)).1, b_fv, b_cKind, b_cSlot, b_cTok, b_cVal, b_cIdx, b_dig)) (z : ¬ (em_1 cap t c).2.2 = 0) : post 0 (g_ol, g_cl, g_newOl, g_newCl, g_tagName, g_parseErr, g_openCount, g_nVals, nI (em_1 cap t c).2.1, nI cap, g_fn, g_cn, b_text, b_len, b_stat, b_errPos, b_removed, b_tType, b_tA, b_tB, b_tName, b_tMatch, b_tCount, b_oc, b_cc, b_newO, b_newC, b_openName, b_openTok, b_vKind, b_vNum, b_vCnt, b_vStr, b_vItem, b_vKey, b_vVal, (em_1 cap t c).1, b_fv, b_cKind, b_cSlot, b_cTok, b_cVal, b_cIdx, b_dig) := by
  have e : em_l cap t (c :: l) = em_1 cap t c := em_st (em_g1 g c) z l
  rw [e] at h0
  exact h0 z
theorem ye_esc {t : (Nat → Int32) × Nat × Int32} {post : Int32 → SY → Prop} {c : Int32} (hc : cap ≤ 256) (g : em_g cap t) (hz : t.2.2 = 0) (H1 : (em_l cap t (em_e c)).2.2 = 0 → post 1 (g_ol, g_cl, g_newOl, g_newCl, g_tagName, g_parseErr, g_openCount, g_nVals, nI (em_l cap t (em_e c)).2.1, nI cap, g_fn, g_cn, b_text, b_len, b_stat, b_errPos, b_removed, b_tType, b_tA, b_tB, b_tName, b_tMatch, b_tCount, b_oc, b_cc, b_newO, b_newC, b_openName, b_openTok, b_vKind, b_vNum, b_vCnt, b_vStr, b_vItem, b_vKey, b_vVal, (em_l cap t (em_e c)).1, b_fv, b_cKind, b_cSlot, b_cTok, b_cVal, b_cIdx, b_dig)) (H0 : ¬ (em_l cap t (em_e c)).2.2 = 0 → post 0 (g_ol, g_cl, g_newOl, g_newCl, g_tagName, g_parseErr, g_openCount, g_nVals, nI (em_l cap t (em_e c)).2.1, nI cap, g_fn, g_cn, b_text, b_len, b_stat, b_errPos, b_removed, b_tType, b_tA, b_tB, b_tName, b_tMatch, b_tCount, b_oc, b_cc, b_newO, b_newC, b_openName, b_openTok, b_vKind, b_vNum, b_vCnt, b_vStr, b_vItem, b_vKey, b_vVal, (em_l cap t (em_e c)).1, b_fv, b_cKind, b_cSlot, b_cTok, b_cVal, b_cIdx, b_dig)) : wpY_emitEsc post (g_ol, g_cl, g_newOl, g_newCl, g_tagName, g_parseErr, g_openCount, g_nVals, nI (t).2.1, nI cap, g_fn, g_cn, b_text, b_len, b_stat, b_errPos, b_removed, b_tType, b_tA, b_tB, b_tName, b_tMatch, b_tCount, b_oc, b_cc, b_newO, b_newC, b_openName, b_openTok, b_vKind, b_vNum, b_vCnt, b_vStr, b_vItem, b_vKey, b_vVal, (t).1, b_fv, b_cKind, b_cSlot, b_cTok, b_cVal, b_cIdx, b_dig) c := by
  unfold wpY_emitEsc
  unfold em_e at H1 H0
  by_cases a0 : c = 38
  · rw [if_pos a0] at H1 H0
    subst a0
    exact br_t rfl (ye_1 hc g hz (fun z0 => br_f (by decide) (ye_1 hc (em_g1 g 38) z0 (fun z1 => br_f (by decide) (ye_1 hc (em_g1 (em_g1 g 38) 97) z1 (fun z2 => br_f (by decide) (ye_1 hc (em_g1 (em_g1 (em_g1 g 38) 97) 109) z2 (fun z3 => br_f (by decide) (ye_1 hc (em_g1 (em_g1 (em_g1 (em_g1 g 38) 97) 109) 112) z3 (fun z => br_f (by decide) (H1 z)) (fun z => br_t rfl (H0 z)))) (fun z => br_t rfl (ye_h (post := post) (l := [59]) (em_g1 (em_g1 (em_g1 g 38) 97) 109) H0 z)))) (fun z => br_t rfl (ye_h (post := post) (l := [112, 59]) (em_g1 (em_g1 g 38) 97) H0 z)))) (fun z => br_t rfl (ye_h (post := post) (l := [109, 112, 59]) (em_g1 g 38) H0 z)))) (fun z => br_t rfl (ye_h (post := post) (l := [97, 109, 112, 59]) g H0 z)))
  · rw [if_neg a0] at H1 H0
    by_cases a1 : c = 60
    · rw [if_pos a1] at H1 H0
      subst a1
      exact br_f (by decide) (br_t rfl (ye_1 hc g hz (fun z0 => br_f (by decide) (ye_1 hc (em_g1 g 38) z0 (fun z1 => br_f (by decide) (ye_1 hc (em_g1 (em_g1 g 38) 108) z1 (fun z2 => br_f (by decide) (ye_1 hc (em_g1 (em_g1 (em_g1 g 38) 108) 116) z2 (fun z => br_f (by decide) (H1 z)) (fun z => br_t rfl (H0 z)))) (fun z => br_t rfl (ye_h (post := post) (l := [59]) (em_g1 (em_g1 g 38) 108) H0 z)))) (fun z => br_t rfl (ye_h (post := post) (l := [116, 59]) (em_g1 g 38) H0 z)))) (fun z => br_t rfl (ye_h (post := post) (l := [108, 116, 59]) g H0 z))))
    · rw [if_neg a1] at H1 H0
      by_cases a2 : c = 62
      · rw [if_pos a2] at H1 H0
        subst a2
        exact br_f (by decide) (br_f (by decide) (br_t rfl (ye_1 hc g hz (fun z0 => br_f (by decide) (ye_1 hc (em_g1 g 38) z0 (fun z1 => br_f (by decide) (ye_1 hc (em_g1 (em_g1 g 38) 103) z1 (fun z2 => br_f (by decide) (ye_1 hc (em_g1 (em_g1 (em_g1 g 38) 103) 116) z2 (fun z => br_f (by decide) (H1 z)) (fun z => br_t rfl (H0 z)))) (fun z => br_t rfl (ye_h (post := post) (l := [59]) (em_g1 (em_g1 g 38) 103) H0 z)))) (fun z => br_t rfl (ye_h (post := post) (l := [116, 59]) (em_g1 g 38) H0 z)))) (fun z => br_t rfl (ye_h (post := post) (l := [103, 116, 59]) g H0 z)))))
      · rw [if_neg a2] at H1 H0
        by_cases a3 : c = 34
        · rw [if_pos a3] at H1 H0
          subst a3
          exact br_f (by decide) (br_f (by decide) (br_f (by decide) (br_t rfl (ye_1 hc g hz (fun z0 => br_f (by decide) (ye_1 hc (em_g1 g 38) z0 (fun z1 => br_f (by decide) (ye_1 hc (em_g1 (em_g1 g 38) 113) z1 (fun z2 => br_f (by decide) (ye_1 hc (em_g1 (em_g1 (em_g1 g 38) 113) 117) z2 (fun z3 => br_f (by decide) (ye_1 hc (em_g1 (em_g1 (em_g1 (em_g1 g 38) 113) 117) 111) z3 (fun z4 => br_f (by decide) (ye_1 hc (em_g1 (em_g1 (em_g1 (em_g1 (em_g1 g 38) 113) 117) 111) 116) z4 (fun z => br_f (by decide) (H1 z)) (fun z => br_t rfl (H0 z)))) (fun z => br_t rfl (ye_h (post := post) (l := [59]) (em_g1 (em_g1 (em_g1 (em_g1 g 38) 113) 117) 111) H0 z)))) (fun z => br_t rfl (ye_h (post := post) (l := [116, 59]) (em_g1 (em_g1 (em_g1 g 38) 113) 117) H0 z)))) (fun z => br_t rfl (ye_h (post := post) (l := [111, 116, 59]) (em_g1 (em_g1 g 38) 113) H0 z)))) (fun z => br_t rfl (ye_h (post := post) (l := [117, 111, 116, 59]) (em_g1 g 38) H0 z)))) (fun z => br_t rfl (ye_h (post := post) (l := [113, 117, 111, 116, 59]) g H0 z))))))
        · rw [if_neg a3] at H1 H0
          by_cases a4 : c = 39
          · rw [if_pos a4] at H1 H0
            subst a4
            exact br_f (by decide) (br_f (by decide) (br_f (by decide) (br_f (by decide) (br_t rfl (ye_1 hc g hz (fun z0 => br_f (by decide) (ye_1 hc (em_g1 g 38) z0 (fun z1 => br_f (by decide) (ye_1 hc (em_g1 (em_g1 g 38) 35) z1 (fun z2 => br_f (by decide) (ye_1 hc (em_g1 (em_g1 (em_g1 g 38) 35) 51) z2 (fun z3 => br_f (by decide) (ye_1 hc (em_g1 (em_g1 (em_g1 (em_g1 g 38) 35) 51) 57) z3 (fun z => br_f (by decide) (H1 z)) (fun z => br_t rfl (H0 z)))) (fun z => br_t rfl (ye_h (post := post) (l := [59]) (em_g1 (em_g1 (em_g1 g 38) 35) 51) H0 z)))) (fun z => br_t rfl (ye_h (post := post) (l := [57, 59]) (em_g1 (em_g1 g 38) 35) H0 z)))) (fun z => br_t rfl (ye_h (post := post) (l := [51, 57, 59]) (em_g1 g 38) H0 z)))) (fun z => br_t rfl (ye_h (post := post) (l := [35, 51, 57, 59]) g H0 z)))))))
          · rw [if_neg a4] at H1 H0
            exact br_f a0 (br_f a1 (br_f a2 (br_f a3 (br_f a4 (ye_1 hc g hz (fun z => ⟨rfl, H1 z⟩) (fun z => ⟨rfl, H0 z⟩))))))
theorem ye_str {post : Int32 → SY → Prop} {j m : Nat} {x2 : Int32} {esc : Bool} {gg : Nat → Int32} (hc : cap ≤ 256) (hj : j < 32) (hm : m ≤ 8) (hC : b_vCnt j = nI m) (hg : ∀ i, i < m → b_vStr (j * 8 + i) = gg i) (hx : (x2 = 0 ∧ esc = false) ∨ (x2 = 1 ∧ esc = true)) : ∀ d i (t : (Nat → Int32) × Nat × Int32), em_g cap t → t.2.2 = 0 → i + d = m → ((em_l cap t (em_u esc gg d i)).2.2 = 0 → post 1 (g_ol, g_cl, g_newOl, g_newCl, g_tagName, g_parseErr, g_openCount, g_nVals, nI (em_l cap t (em_u esc gg d i)).2.1, nI cap, g_fn, g_cn, b_text, b_len, b_stat, b_errPos, b_removed, b_tType, b_tA, b_tB, b_tName, b_tMatch, b_tCount, b_oc, b_cc, b_newO, b_newC, b_openName, b_openTok, b_vKind, b_vNum, b_vCnt, b_vStr, b_vItem, b_vKey, b_vVal, (em_l cap t (em_u esc gg d i)).1, b_fv, b_cKind, b_cSlot, b_cTok, b_cVal, b_cIdx, b_dig)) → (¬ (em_l cap t (em_u esc gg d i)).2.2 = 0 → post 0 (g_ol, g_cl, g_newOl, g_newCl, g_tagName, g_parseErr, g_openCount, g_nVals, nI (em_l cap t (em_u esc gg d i)).2.1, nI cap, g_fn, g_cn, b_text, b_len, b_stat, b_errPos, b_removed, b_tType, b_tA, b_tB, b_tName, b_tMatch, b_tCount, b_oc, b_cc, b_newO, b_newC, b_openName, b_openTok, b_vKind, b_vNum, b_vCnt, b_vStr, b_vItem, b_vKey, b_vVal, (em_l cap t (em_u esc gg d i)).1, b_fv, b_cKind, b_cSlot, b_cTok, b_cVal, b_cIdx, b_dig)) → wY_emitValue_117 post (nI (j + 1)) x2 (d + 1) (nI i) g_ol g_cl g_newOl g_newCl g_tagName g_parseErr g_openCount g_nVals (nI (t).2.1) (nI cap) g_fn g_cn b_text b_len b_stat b_errPos b_removed b_tType b_tA b_tB b_tName b_tMatch b_tCount b_oc b_cc b_newO b_newC b_openName b_openTok b_vKind b_vNum b_vCnt b_vStr b_vItem b_vKey b_vVal ((t).1) b_fv b_cKind b_cSlot b_cTok b_cVal b_cIdx b_dig := by
  intro d
  induction d with
  | zero =>
    intro i t g hz hi H1 H0
    refine ⟨by rw [nI_pred]; exact vp_in_nI (by omega) (by omega), br_t ?_ (H1 hz)⟩
    rw [nI_pred, nI_clamp (by omega), hC]
    exact nI_le (by omega) (by omega)
  | succ d ih =>
    intro i t g hz hi H1 H0
    rw [em_us, em_a] at H1 H0
    have e1 : b_vCnt (nI (j + 1) - 1).toNatClampNeg = nI m := by rw [nI_pred, nI_clamp (by omega), hC]
    have e2 : (nI (j + 1) - 1) * 8 + nI i = nI (j * 8 + i) := by rw [nI_pred, la_m8, nI_add]
    have go : ∀ t' : (Nat → Int32) × Nat × Int32, t' = em_l cap t (em_h esc (gg i)) → (t'.2.2 = 0 → wY_emitValue_165 post (wY_emitValue_117 post (nI (j + 1)) x2 (d + 1)) (nI (j + 1)) x2 (nI i) 1 g_ol g_cl g_newOl g_newCl g_tagName g_parseErr g_openCount g_nVals (nI (t').2.1) (nI cap) g_fn g_cn b_text b_len b_stat b_errPos b_removed b_tType b_tA b_tB b_tName b_tMatch b_tCount b_oc b_cc b_newO b_newC b_openName b_openTok b_vKind b_vNum b_vCnt b_vStr b_vItem b_vKey b_vVal ((t').1) b_fv b_cKind b_cSlot b_cTok b_cVal b_cIdx b_dig) ∧ (¬ t'.2.2 = 0 → wY_emitValue_165 post (wY_emitValue_117 post (nI (j + 1)) x2 (d + 1)) (nI (j + 1)) x2 (nI i) 0 g_ol g_cl g_newOl g_newCl g_tagName g_parseErr g_openCount g_nVals (nI (t').2.1) (nI cap) g_fn g_cn b_text b_len b_stat b_errPos b_removed b_tType b_tA b_tB b_tName b_tMatch b_tCount b_oc b_cc b_newO b_newC b_openName b_openTok b_vKind b_vNum b_vCnt b_vStr b_vItem b_vKey b_vVal ((t').1) b_fv b_cKind b_cSlot b_cTok b_cVal b_cIdx b_dig) := by
      intro t' ht'
      have g' : em_g cap t' := by rw [ht']; exact em_gl _ g
      rw [← ht'] at H1 H0
      refine ⟨fun z => br_f (by decide) (nm_r (nI_1 _) (ih (i + 1) t' g' z (by omega) H1 H0)), fun z => br_t rfl ?_⟩
      rw [em_st g' z] at H0
      exact H0 z
    refine ⟨by rw [nI_pred]; exact vp_in_nI (by omega) (by omega), br_f (by rw [e1]; exact nI_ge (by omega) (by omega)) ⟨by rw [e2]; exact vp_in_nI (by omega) (by omega), nm_r (e' := gg i) (by rw [e2, nI_clamp (by omega)]; exact hg i (by omega)) ?_⟩⟩
    rcases hx with ⟨a, b⟩ | ⟨a, b⟩
    · subst b
      exact br_t a (ye_1 hc g hz (go (em_1 cap t (gg i)) rfl).1 (go (em_1 cap t (gg i)) rfl).2)
    · subst b
      exact br_f (by rw [a]; decide) (ye_esc hc g hz (go (em_l cap t (em_e (gg i))) rfl).1 (go (em_l cap t (em_e (gg i))) rfl).2)
theorem ye_dig {post : Int32 → SY → Prop} {m : Int32} {Q : Nat} (hc : cap ≤ 256) (hQ : Q ≤ 10) (hd : ∀ i, i < Q → b_dig i = -(ll_it m i - ll_it m i / 10 * 10)) : ∀ d (t : (Nat → Int32) × Nat × Int32), d ≤ Q → em_g cap t → t.2.2 = 0 → ((em_l cap t (em_d (ll_dg m) d)).2.2 = 0 → post 1 (g_ol, g_cl, g_newOl, g_newCl, g_tagName, g_parseErr, g_openCount, g_nVals, nI (em_l cap t (em_d (ll_dg m) d)).2.1, nI cap, g_fn, g_cn, b_text, b_len, b_stat, b_errPos, b_removed, b_tType, b_tA, b_tB, b_tName, b_tMatch, b_tCount, b_oc, b_cc, b_newO, b_newC, b_openName, b_openTok, b_vKind, b_vNum, b_vCnt, b_vStr, b_vItem, b_vKey, b_vVal, (em_l cap t (em_d (ll_dg m) d)).1, b_fv, b_cKind, b_cSlot, b_cTok, b_cVal, b_cIdx, b_dig)) → (¬ (em_l cap t (em_d (ll_dg m) d)).2.2 = 0 → post 0 (g_ol, g_cl, g_newOl, g_newCl, g_tagName, g_parseErr, g_openCount, g_nVals, nI (em_l cap t (em_d (ll_dg m) d)).2.1, nI cap, g_fn, g_cn, b_text, b_len, b_stat, b_errPos, b_removed, b_tType, b_tA, b_tB, b_tName, b_tMatch, b_tCount, b_oc, b_cc, b_newO, b_newC, b_openName, b_openTok, b_vKind, b_vNum, b_vCnt, b_vStr, b_vItem, b_vKey, b_vVal, (em_l cap t (em_d (ll_dg m) d)).1, b_fv, b_cKind, b_cSlot, b_cTok, b_cVal, b_cIdx, b_dig)) → wY_emitValue_274 post (d + 1) (nI d - 1) g_ol g_cl g_newOl g_newCl g_tagName g_parseErr g_openCount g_nVals (nI (t).2.1) (nI cap) g_fn g_cn b_text b_len b_stat b_errPos b_removed b_tType b_tA b_tB b_tName b_tMatch b_tCount b_oc b_cc b_newO b_newC b_openName b_openTok b_vKind b_vNum b_vCnt b_vStr b_vItem b_vKey b_vVal ((t).1) b_fv b_cKind b_cSlot b_cTok b_cVal b_cIdx b_dig := by
  intro d
  induction d with
  | zero => intro t _ g hz H1 H0; exact br_t (by decide) (H1 hz)
  | succ d ih =>
    intro t hdQ g hz H1 H0
    rw [em_ds] at H1 H0
    rw [nI_pred]
    have e : 48 + b_dig (nI d).toNatClampNeg = ll_dg m d := by
      rw [nI_clamp (by omega), hd d (by omega)]
      unfold ll_dg
      rw [Int32.sub_eq_add_neg 48]
    refine br_f (nI_pos (by omega)) ⟨vp_in_nI (by omega) (by omega), ?_⟩
    rw [e]
    refine ye_1 hc g hz (fun z => br_f (by decide) (nm_r (Int32.sub_eq_add_neg _ _).symm (ih _ (by omega) (em_g1 g _) z H1 H0))) (fun z => br_t rfl (ye_h (post := post) g H0 z))
theorem ye_224 {m : Int32} : ∀ d c (dig : Nat → Int32), c + d = 9 → (∀ i, i < c → dig i = -(ll_it m i - ll_it m i / 10 * 10)) → ∃ dig' : Nat → Int32, (∀ i, i < em_q m d (c + 1) → dig' i = -(ll_it m i - ll_it m i / 10 * 10)) ∧ ∀ post : Int32 → SY → Prop, (∃ n274, wY_emitValue_274 post n274 (nI (em_q m d (c + 1)) - 1) g_ol g_cl g_newOl g_newCl g_tagName g_parseErr g_openCount g_nVals g_outLen g_outCap g_fn g_cn b_text b_len b_stat b_errPos b_removed b_tType b_tA b_tB b_tName b_tMatch b_tCount b_oc b_cc b_newO b_newC b_openName b_openTok b_vKind b_vNum b_vCnt b_vStr b_vItem b_vKey b_vVal b_out b_fv b_cKind b_cSlot b_cTok b_cVal b_cIdx dig') → wY_emitValue_224 post g_ol g_cl g_newOl g_newCl g_tagName g_parseErr g_openCount g_nVals g_outLen g_outCap g_fn g_cn (d + 1) (ll_it m c) (nI c) (nI c) b_text b_len b_stat b_errPos b_removed b_tType b_tA b_tB b_tName b_tMatch b_tCount b_oc b_cc b_newO b_newC b_openName b_openTok b_vKind b_vNum b_vCnt b_vStr b_vItem b_vKey b_vVal b_out b_fv b_cKind b_cSlot b_cTok b_cVal b_cIdx dig := by
  intro d
  induction d with
  | zero =>
    intro c dig hcd h
    have e : c = 9 := by omega
    subst e
    refine ⟨upd dig 9 (-(ll_it m 9 - ll_it m 9 / 10 * 10)), fun i hi => ?_, fun post hp => ?_⟩
    · have hi' : i < 10 := hi
      by_cases w : i = 9
      · rw [w, pk_us]
      · rw [pk_un w]; exact h i (by omega)
    · exact br_f (by decide) ⟨by decide, vp_in_nI (n := 9) (by omega) (by omega), nm_e (nm_e ⟨by decide, nm_r (e' := ll_it m 10) rfl (br_t (ll_it_10 m) (nm_e hp))⟩)⟩
  | succ d ih =>
    intro c dig hcd h
    have q1 : ∀ i, i < c + 1 → upd dig c (-(ll_it m c - ll_it m c / 10 * 10)) i = -(ll_it m i - ll_it m i / 10 * 10) := fun i hi => by
      by_cases w : i = c
      · rw [w, pk_us]
      · rw [pk_un w]; exact h i (by omega)
    by_cases z : ll_it m (c + 1) = 0
    · have eq : em_q m (d + 1) (c + 1) = c + 1 := by rw [em_qs, if_pos z]
      rw [eq]
      refine ⟨_, q1, fun post hp => ?_⟩
      exact br_f (nI_ge (b := 11) (by omega) (by decide)) ⟨by decide, vp_in_nI (by omega) (by omega), nm_r (by rw [nI_clamp (by omega)]) (nm_r (nI_1 _) ⟨by decide, nm_r (e' := ll_it m (c + 1)) rfl (br_t z (nm_e hp))⟩)⟩
    · have eq : em_q m (d + 1) (c + 1) = em_q m d (c + 2) := by rw [em_qs, if_neg z]
      rw [eq]
      obtain ⟨dig', a, b⟩ := ih (c + 1) _ (by omega) q1
      refine ⟨dig', a, fun post hp => ?_⟩
      exact br_f (nI_ge (b := 11) (by omega) (by decide)) ⟨by decide, vp_in_nI (by omega) (by omega), nm_r (by rw [nI_clamp (by omega)]) (nm_r (nI_1 _) ⟨by decide, nm_r (e' := ll_it m (c + 1)) rfl (br_f z (nm_r (nI_1 _) (b post hp)))⟩)⟩
theorem ye_val {nv : Nat} {kd ct : Nat → Nat} {xk am pt fd : Nat → Int32} {esc : Bool} {x2 : Int32} {t : (Nat → Int32) × Nat × Int32} (hV : vl_R nv kd ct xk am pt fd b_vKind b_vNum b_vCnt b_vStr b_vItem b_vKey b_vVal) {j : Nat} (hj : j < nv) (hc : cap ≤ 256) (g : em_g cap t) (hz : t.2.2 = 0) (hx : (x2 = 0 ∧ esc = false) ∨ (x2 = 1 ∧ esc = true)) :
    ∃ dig' : Nat → Int32, ∀ post : Int32 → SY → Prop, ((em_l cap t (tx_l esc kd ct am pt (j + 1))).2.2 = 0 → post 1 (g_ol, g_cl, g_newOl, g_newCl, g_tagName, g_parseErr, g_openCount, nI nv, nI (em_l cap t (tx_l esc kd ct am pt (j + 1))).2.1, nI cap, g_fn, g_cn, b_text, b_len, b_stat, b_errPos, b_removed, b_tType, b_tA, b_tB, b_tName, b_tMatch, b_tCount, b_oc, b_cc, b_newO, b_newC, b_openName, b_openTok, b_vKind, b_vNum, b_vCnt, b_vStr, b_vItem, b_vKey, b_vVal, (em_l cap t (tx_l esc kd ct am pt (j + 1))).1, b_fv, b_cKind, b_cSlot, b_cTok, b_cVal, b_cIdx, dig')) → (¬ (em_l cap t (tx_l esc kd ct am pt (j + 1))).2.2 = 0 → post 0 (g_ol, g_cl, g_newOl, g_newCl, g_tagName, g_parseErr, g_openCount, nI nv, nI (em_l cap t (tx_l esc kd ct am pt (j + 1))).2.1, nI cap, g_fn, g_cn, b_text, b_len, b_stat, b_errPos, b_removed, b_tType, b_tA, b_tB, b_tName, b_tMatch, b_tCount, b_oc, b_cc, b_newO, b_newC, b_openName, b_openTok, b_vKind, b_vNum, b_vCnt, b_vStr, b_vItem, b_vKey, b_vVal, (em_l cap t (tx_l esc kd ct am pt (j + 1))).1, b_fv, b_cKind, b_cSlot, b_cTok, b_cVal, b_cIdx, dig')) → wpY_emitValue post (g_ol, g_cl, g_newOl, g_newCl, g_tagName, g_parseErr, g_openCount, nI nv, nI (t).2.1, nI cap, g_fn, g_cn, b_text, b_len, b_stat, b_errPos, b_removed, b_tType, b_tA, b_tB, b_tName, b_tMatch, b_tCount, b_oc, b_cc, b_newO, b_newC, b_openName, b_openTok, b_vKind, b_vNum, b_vCnt, b_vStr, b_vItem, b_vKey, b_vVal, (t).1, b_fv, b_cKind, b_cSlot, b_cTok, b_cVal, b_cIdx, b_dig) (nI (j + 1)) x2 := by
  obtain ⟨g1, g2, g3, g4, g5, g6, g7, g8, g9, g10, g11, g12, g13⟩ := hV.2 j hj
  have hnv := hV.1
  have m : ∀ w, w ≤ 6 → kd (j + 1) ≠ w → ¬ nI (kd (j + 1)) = nI w := fun w w1 w2 x => w2 (la_im x (by omega) (by omega))
  unfold tx_l
  by_cases k1 : kd (j + 1) = 1
  · rw [if_pos k1]
    rw [k1] at g5
    refine ⟨b_dig, fun post H1 H0 => ?_⟩
    unfold wpY_emitValue
    exact yl_kin hnv hj g5 (br_f (by decide) (br_t rfl (ye_1 hc g hz (fun z0 => br_f (by decide) (ye_1 hc (em_g1 g 102) z0 (fun z1 => br_f (by decide) (ye_1 hc (em_g1 (em_g1 g 102) 97) z1 (fun z2 => br_f (by decide) (ye_1 hc (em_g1 (em_g1 (em_g1 g 102) 97) 108) z2 (fun z3 => br_f (by decide) (ye_1 hc (em_g1 (em_g1 (em_g1 (em_g1 g 102) 97) 108) 115) z3 (fun z => br_f (by decide) (H1 z)) (fun z => br_t rfl (H0 z)))) (fun z => br_t rfl (ye_h (post := post) (l := [101]) (em_g1 (em_g1 (em_g1 g 102) 97) 108) H0 z)))) (fun z => br_t rfl (ye_h (post := post) (l := [115, 101]) (em_g1 (em_g1 g 102) 97) H0 z)))) (fun z => br_t rfl (ye_h (post := post) (l := [108, 115, 101]) (em_g1 g 102) H0 z)))) (fun z => br_t rfl (ye_h (post := post) (l := [97, 108, 115, 101]) g H0 z)))))
  · rw [if_neg k1]
    by_cases k2 : kd (j + 1) = 2
    · rw [if_pos k2]
      rw [k2] at g5
      refine ⟨b_dig, fun post H1 H0 => ?_⟩
      unfold wpY_emitValue
      exact yl_kin hnv hj g5 (br_t rfl (ye_1 hc g hz (fun z0 => br_f (by decide) (ye_1 hc (em_g1 g 116) z0 (fun z1 => br_f (by decide) (ye_1 hc (em_g1 (em_g1 g 116) 114) z1 (fun z2 => br_f (by decide) (ye_1 hc (em_g1 (em_g1 (em_g1 g 116) 114) 117) z2 (fun z => br_f (by decide) (H1 z)) (fun z => br_t rfl (H0 z)))) (fun z => br_t rfl (ye_h (post := post) (l := [101]) (em_g1 (em_g1 g 116) 114) H0 z)))) (fun z => br_t rfl (ye_h (post := post) (l := [117, 101]) (em_g1 g 116) H0 z)))) (fun z => br_t rfl (ye_h (post := post) (l := [114, 117, 101]) g H0 z))))
    · rw [if_neg k2]
      by_cases k3 : kd (j + 1) = 3
      · rw [if_pos k3]
        rw [k3] at g5
        have e7 := g7 k3
        have qb := em_qb (tx_m (am (j + 1))) 9 1
        have e8 : b_vNum (nI (j + 1) - 1).toNatClampNeg = am (j + 1) := by rw [nI_pred, nI_clamp (by omega)]; exact e7.symm
        have i8 : vp_in (nI (j + 1) - 1) 32 := by rw [nI_pred]; exact vp_in_nI (by omega) (by omega)
        unfold tx_n
        by_cases s0 : 0 ≤ am (j + 1)
        · rw [if_pos s0]
          have em : tx_m (am (j + 1)) = -am (j + 1) := if_pos s0
          obtain ⟨dig', a, b⟩ := ye_224 (g_ol := g_ol) (g_cl := g_cl) (g_newOl := g_newOl) (g_newCl := g_newCl) (g_tagName := g_tagName) (g_parseErr := g_parseErr) (g_openCount := g_openCount) (g_nVals := nI nv) (g_outLen := nI t.2.1) (g_outCap := nI cap) (g_fn := g_fn) (g_cn := g_cn) (b_text := b_text) (b_len := b_len) (b_stat := b_stat) (b_errPos := b_errPos) (b_removed := b_removed) (b_tType := b_tType) (b_tA := b_tA) (b_tB := b_tB) (b_tName := b_tName) (b_tMatch := b_tMatch) (b_tCount := b_tCount) (b_oc := b_oc) (b_cc := b_cc) (b_newO := b_newO) (b_newC := b_newC) (b_openName := b_openName) (b_openTok := b_openTok) (b_vKind := b_vKind) (b_vNum := b_vNum) (b_vCnt := b_vCnt) (b_vStr := b_vStr) (b_vItem := b_vItem) (b_vKey := b_vKey) (b_vVal := b_vVal) (b_out := t.1) (b_fv := b_fv) (b_cKind := b_cKind) (b_cSlot := b_cSlot) (b_cTok := b_cTok) (b_cVal := b_cVal) (b_cIdx := b_cIdx) (m := tx_m (am (j + 1))) 9 0 b_dig rfl (fun i hi => absurd hi (by omega))
          refine ⟨dig', fun post H1 H0 => ?_⟩
          unfold wpY_emitValue
          have r := b post ⟨_, ye_dig (Q := em_q (tx_m (am (j + 1))) 9 1) hc (by omega) a (em_q (tx_m (am (j + 1))) 9 1) t (Nat.le_refl _) g hz H1 H0⟩
          exact yl_kin hnv hj g5 (br_f (by decide) (br_f (by decide) (br_f (by decide) (br_t rfl ⟨i8, nm_r e8 (br_t s0 (nm_r em.symm ⟨_, r⟩))⟩))))
        · rw [if_neg s0]
          have em : tx_m (am (j + 1)) = am (j + 1) := if_neg s0
          by_cases ov : (em_1 cap t 45).2.2 = 0
          · obtain ⟨dig', a, b⟩ := ye_224 (g_ol := g_ol) (g_cl := g_cl) (g_newOl := g_newOl) (g_newCl := g_newCl) (g_tagName := g_tagName) (g_parseErr := g_parseErr) (g_openCount := g_openCount) (g_nVals := nI nv) (g_outLen := nI (em_1 cap t 45).2.1) (g_outCap := nI cap) (g_fn := g_fn) (g_cn := g_cn) (b_text := b_text) (b_len := b_len) (b_stat := b_stat) (b_errPos := b_errPos) (b_removed := b_removed) (b_tType := b_tType) (b_tA := b_tA) (b_tB := b_tB) (b_tName := b_tName) (b_tMatch := b_tMatch) (b_tCount := b_tCount) (b_oc := b_oc) (b_cc := b_cc) (b_newO := b_newO) (b_newC := b_newC) (b_openName := b_openName) (b_openTok := b_openTok) (b_vKind := b_vKind) (b_vNum := b_vNum) (b_vCnt := b_vCnt) (b_vStr := b_vStr) (b_vItem := b_vItem) (b_vKey := b_vKey) (b_vVal := b_vVal) (b_out := (em_1 cap t 45).1) (b_fv := b_fv) (b_cKind := b_cKind) (b_cSlot := b_cSlot) (b_cTok := b_cTok) (b_cVal := b_cVal) (b_cIdx := b_cIdx) (m := tx_m (am (j + 1))) 9 0 b_dig rfl (fun i hi => absurd hi (by omega))
            refine ⟨dig', fun post H1 H0 => ?_⟩
            unfold wpY_emitValue
            have r := b post ⟨_, ye_dig (Q := em_q (tx_m (am (j + 1))) 9 1) hc (by omega) a (em_q (tx_m (am (j + 1))) 9 1) (em_1 cap t 45) (Nat.le_refl _) (em_g1 g 45) ov H1 H0⟩
            rw [em] at r
            exact yl_kin hnv hj g5 (br_f (by decide) (br_f (by decide) (br_f (by decide) (br_t rfl ⟨i8, nm_r e8 (br_f s0 (ye_1 hc g hz (fun _ => br_f (by decide) ⟨_, r⟩) (fun z => absurd ov z)))⟩))))
          · refine ⟨b_dig, fun post H1 H0 => ?_⟩
            unfold wpY_emitValue
            exact yl_kin hnv hj g5 (br_f (by decide) (br_f (by decide) (br_f (by decide) (br_t rfl ⟨i8, nm_r e8 (br_f s0 (ye_1 hc g hz (fun z => absurd z ov) (fun z => br_t rfl (ye_h (post := post) g H0 z))))⟩))))
      · rw [if_neg k3]
        by_cases k4 : kd (j + 1) = 4
        · rw [if_pos k4]
          rw [k4] at g5
          refine ⟨b_dig, fun post H1 H0 => ?_⟩
          unfold wpY_emitValue
          exact yl_kin hnv hj g5 (br_f (by decide) (br_f (by decide) (br_t rfl ⟨_, ye_str hc (by omega) g3 g6 (fun i hi => (g11 k4 i hi).symm) hx (ct (j + 1)) 0 t g hz (by omega) H1 H0⟩)))
        · rw [if_neg k4]
          refine ⟨b_dig, fun post H1 H0 => ?_⟩
          unfold wpY_emitValue
          exact yl_kin hnv hj g5 (br_f (m 2 (by omega) k2) (br_f (m 1 (by omega) k1) (br_f (m 4 (by omega) k4) (br_f (m 3 (by omega) k3) (H1 hz)))))
theorem ye_non {nv : Nat} {post : Int32 → SY → Prop} {x2 : Int32} (h : post 1 (g_ol, g_cl, g_newOl, g_newCl, g_tagName, g_parseErr, g_openCount, nI nv, g_outLen, g_outCap, g_fn, g_cn, b_text, b_len, b_stat, b_errPos, b_removed, b_tType, b_tA, b_tB, b_tName, b_tMatch, b_tCount, b_oc, b_cc, b_newO, b_newC, b_openName, b_openTok, b_vKind, b_vNum, b_vCnt, b_vStr, b_vItem, b_vKey, b_vVal, b_out, b_fv, b_cKind, b_cSlot, b_cTok, b_cVal, b_cIdx, b_dig)) : wpY_emitValue post (g_ol, g_cl, g_newOl, g_newCl, g_tagName, g_parseErr, g_openCount, nI nv, g_outLen, g_outCap, g_fn, g_cn, b_text, b_len, b_stat, b_errPos, b_removed, b_tType, b_tA, b_tB, b_tName, b_tMatch, b_tCount, b_oc, b_cc, b_newO, b_newC, b_openName, b_openTok, b_vKind, b_vNum, b_vCnt, b_vStr, b_vItem, b_vKey, b_vVal, b_out, b_fv, b_cKind, b_cSlot, b_cTok, b_cVal, b_cIdx, b_dig) 0 x2 := by
  unfold wpY_emitValue
  exact yl_kout (Or.inl (by decide)) (br_f (by decide) (br_f (by decide) (br_f (by decide) (br_f (by decide) h))))
end LLEY
end
section
section LLLK
/-- the look up of a name -/
def lk_v (root : Nat) (kd ct : Nat → Nat) (pt fd : Nat → Int32) (es : List (Nat × Nat × Nat × Nat × Nat × Nat)) (c : Int32) : Int32 := if c = 46 then nI (rn_t root es) else rn_l root (vf_f kd ct pt fd c) es
variable {f_openMarkLength f_closeMarkLength f_openCount f_compileFrom f_compileTo f_valueCount f_outCap f_outCount f_frameCount f_valueTextLength f_renderAt f_renderTo f_returnAt f_finished f_overflowed : Int32} {a_text a_cellKind a_cellName a_tagEnd a_sectionEnd a_textLength a_slotStatus a_slotError a_openMark a_closeMark a_openTags a_valueKind a_amount a_parts a_fieldValues a_out a_frameValue a_frameList a_frameNext a_frameBody a_valueText : Nat → Int32} {g_ol g_cl g_newOl g_newCl g_tagName g_parseErr g_openCount g_nVals g_outLen g_outCap g_fn g_cn : Int32} {b_text b_len b_stat b_errPos b_removed b_tType b_tA b_tB b_tName b_tMatch b_tCount b_oc b_cc b_newO b_newC b_openName b_openTok b_vKind b_vNum b_vCnt b_vStr b_vItem b_vKey b_vVal b_out b_fv b_cKind b_cSlot b_cTok b_cVal b_cIdx b_dig : Nat → Int32} {nv root : Nat} {kd ct : Nat → Nat} {M : Nat → Nat} {PS TP : Nat → Nat → Nat} {ST : Nat → Nat → List Nat}
theorem lk_r (hV : vl_R nv kd ct a_valueKind a_amount a_parts a_fieldValues b_vKind b_vNum b_vCnt b_vStr b_vItem b_vKey b_vVal) (h1 : 1 ≤ root) (h2 : root ≤ nv) (c : Int32) : ∀ (es : List (Nat × Nat × Nat × Nat × Nat × Nat)) (s : Nat) (hs : List Nat), rn_m M TP ST nv es s hs → rn_l root (vf_f kd ct a_parts a_fieldValues c) es = 0 ∨ ∃ w, 1 ≤ w ∧ w ≤ nv ∧ rn_l root (vf_f kd ct a_parts a_fieldValues c) es = nI w := by
  have fv : ∀ v, 1 ≤ v → v ≤ nv → vf_f kd ct a_parts a_fieldValues c v = 0 ∨ ∃ w, 1 ≤ w ∧ w ≤ nv ∧ vf_f kd ct a_parts a_fieldValues c v = nI w := fun v v1 v2 => by
    obtain ⟨j, rfl⟩ : ∃ j, v = j + 1 := ⟨v - 1, by omega⟩
    exact vf_r hV (by omega)
  intro es
  induction es with
  | nil => intro s hs _; exact fv root h1 h2
  | cons e es ih =>
    intro s hs h
    rcases h with ⟨g1, _, _, _, _, _, _, g7⟩ | ⟨g1, g2, g3, g4, g5, g6, g7⟩
    · simp only [rn_l, if_neg (show ¬ e.1 = 6 from by omega)]
      exact ih _ _ g7
    · by_cases z : e.1 = 6
      · simp only [rn_l, if_pos z]
        by_cases w : vf_f kd ct a_parts a_fieldValues c e.2.2.2.2.2 = 0
        · rw [if_pos w]; exact ih _ _ g7
        · rw [if_neg w]; exact fv _ (g6 z).2.1 (g6 z).2.2
      · simp only [rn_l, if_neg z]
        exact ih _ _ g7
theorem lk_vr (hV : vl_R nv kd ct a_valueKind a_amount a_parts a_fieldValues b_vKind b_vNum b_vCnt b_vStr b_vItem b_vKey b_vVal) (h1 : 1 ≤ root) (h2 : root ≤ nv) (c : Int32) {es : List (Nat × Nat × Nat × Nat × Nat × Nat)} {s : Nat} {hs : List Nat} (hm : rn_m M TP ST nv es s hs) : lk_v root kd ct a_parts a_fieldValues es c = 0 ∨ ∃ w, 1 ≤ w ∧ w ≤ nv ∧ lk_v root kd ct a_parts a_fieldValues es c = nI w := by
  unfold lk_v
  by_cases z : c = 46
  · rw [if_pos z]
    have := rn_tv h1 h2 es s hs hm
    exact Or.inr ⟨_, this.1, this.2, rfl⟩
  · rw [if_neg z]
    exact lk_r hV h1 h2 c es s hs hm
theorem xk_fr {post : Int32 → Prop} {c : Int32} {v i n : Nat} (hV : vl_R nv kd ct a_valueKind a_amount a_parts a_fieldValues b_vKind b_vNum b_vCnt b_vStr b_vItem b_vKey b_vVal) (hi : i < 5) (hv1 : 1 ≤ v) (hv2 : v ≤ nv) (hf : a_frameValue i = nI v) (h1 : ¬ vf_f kd ct a_parts a_fieldValues c v = 0 → post (vf_f kd ct a_parts a_fieldValues c v)) (h0 : vf_f kd ct a_parts a_fieldValues c v = 0 → wX_lookUp_36 post c f_openMarkLength f_closeMarkLength f_openCount f_compileFrom f_compileTo (nI nv) f_outCap f_outCount f_frameCount f_valueTextLength f_renderAt f_renderTo f_returnAt f_finished f_overflowed a_text a_cellKind a_cellName a_tagEnd a_sectionEnd a_textLength a_slotStatus a_slotError a_openMark a_closeMark a_openTags a_valueKind a_amount a_parts a_fieldValues a_out a_frameValue a_frameList a_frameNext a_frameBody a_valueText n (nI i - 1)) : wX_lookUp_36 post c f_openMarkLength f_closeMarkLength f_openCount f_compileFrom f_compileTo (nI nv) f_outCap f_outCount f_frameCount f_valueTextLength f_renderAt f_renderTo f_returnAt f_finished f_overflowed a_text a_cellKind a_cellName a_tagEnd a_sectionEnd a_textLength a_slotStatus a_slotError a_openMark a_closeMark a_openTags a_valueKind a_amount a_parts a_fieldValues a_out a_frameValue a_frameList a_frameNext a_frameBody a_valueText (n + 1) (nI i) := by
  obtain ⟨j, rfl⟩ : ∃ j, v = j + 1 := ⟨v - 1, by omega⟩
  refine br_f (nI_pos (by omega)) ⟨vp_in_nI hi (by omega), ?_⟩
  rw [nI_clamp (by omega), hf]
  exact xl_fof hV (by omega) ⟨fun z => nm_r (Int32.sub_eq_add_neg _ _).symm (h0 z), h1⟩
theorem xk_l {post : Int32 → Prop} {c : Int32} (hV : vl_R nv kd ct a_valueKind a_amount a_parts a_fieldValues b_vKind b_vNum b_vCnt b_vStr b_vItem b_vKey b_vVal) (r1 : 1 ≤ root) (r2 : root ≤ nv) : ∀ (es : List (Nat × Nat × Nat × Nat × Nat × Nat)) (fc fn cn s : Nat) (hs : List Nat), rn_s PS kd root a_frameValue a_frameList a_frameNext a_frameBody b_fv b_cKind b_cSlot b_cTok b_cVal b_cIdx es fc fn cn → rn_m M TP ST nv es s hs → fc ≤ 5 → post (rn_l root (vf_f kd ct a_parts a_fieldValues c) es) → ∃ n, wX_lookUp_36 post c f_openMarkLength f_closeMarkLength f_openCount f_compileFrom f_compileTo (nI nv) f_outCap f_outCount f_frameCount f_valueTextLength f_renderAt f_renderTo f_returnAt f_finished f_overflowed a_text a_cellKind a_cellName a_tagEnd a_sectionEnd a_textLength a_slotStatus a_slotError a_openMark a_closeMark a_openTags a_valueKind a_amount a_parts a_fieldValues a_out a_frameValue a_frameList a_frameNext a_frameBody a_valueText n (nI fc - 1) := by
  intro es
  induction es with
  | nil =>
    intro fc fn cn s hs h hm h5 hp
    obtain ⟨a1, a2, a3, a4, a5⟩ := h
    subst a1
    refine ⟨2, xk_fr (i := 0) hV (by omega) r1 r2 a4 (fun _ => hp) (fun z => br_t (by decide) ?_)⟩
    simp only [rn_l, z] at hp
    exact hp
  | cons e es ih =>
    intro fc fn cn s hs h hm h5 hp
    obtain ⟨fc', fn', cn', b1, b2, b3, b4, b5, b6⟩ := h
    have pos := rn_sn es fc' fn' cn' b1
    rcases b6 with ⟨k, c1, c2, c3, c4, c5, c6, c7⟩ | ⟨k, c1, c2, c3, c4⟩ | ⟨k, c1, c2⟩
    · have hm' : (1 ≤ e.2.2.2.2.2 ∧ e.2.2.2.2.2 ≤ nv) ∧ ∃ s' hs', rn_m M TP ST nv es s' hs' := by
        rcases hm with ⟨g1, _⟩ | ⟨g1, g2, g3, g4, g5, g6, g7⟩
        · omega
        · exact ⟨(g6 k).2, _, _, g7⟩
      obtain ⟨⟨v1, v2⟩, s', hs', hm2⟩ := hm'
      simp only [rn_l, if_pos k] at hp
      subst c1
      rw [nI_pred]
      by_cases z : vf_f kd ct a_parts a_fieldValues c e.2.2.2.2.2 = 0
      · rw [if_pos z] at hp
        obtain ⟨n, hn⟩ := ih fc' fn' cn' s' hs' b1 hm2 (by omega) hp
        exact ⟨n + 1, xk_fr hV (by omega) v1 v2 c5 (fun w => absurd z w) (fun _ => hn)⟩
      · rw [if_neg z] at hp
        exact ⟨1, xk_fr hV (by omega) v1 v2 c5 (fun _ => hp) (fun w => absurd w z)⟩
    · have hm' : ∃ s' hs', rn_m M TP ST nv es s' hs' := by
        rcases hm with ⟨g1, _⟩ | ⟨g1, g2, g3, g4, g5, g6, g7⟩
        · omega
        · exact ⟨_, _, g7⟩
      obtain ⟨s', hs', hm2⟩ := hm'
      have tv := rn_tv r1 r2 es s' hs' hm2
      simp only [rn_l, if_neg (show ¬ e.1 = 6 from by omega)] at hp
      subst c1
      rw [nI_pred]
      by_cases z : vf_f kd ct a_parts a_fieldValues c (rn_t root es) = 0
      · obtain ⟨n, hn⟩ := ih fc' fn' cn' s' hs' b1 hm2 (by omega) hp
        exact ⟨n + 1, xk_fr hV (by omega) tv.1 tv.2 c3 (fun w => absurd z w) (fun _ => hn)⟩
      · rw [rn_lt root _ es z] at hp
        exact ⟨1, xk_fr hV (by omega) tv.1 tv.2 c3 (fun _ => hp) (fun w => absurd w z)⟩
    · have hm' : ∃ s' hs', rn_m M TP ST nv es s' hs' := by
        rcases hm with ⟨g1, g2, g3, g4, g5, g6, g7, g8⟩ | ⟨g1, _⟩
        · exact ⟨_, _, g8⟩
        · omega
      obtain ⟨s', hs', hm2⟩ := hm'
      simp only [rn_l, if_neg (show ¬ e.1 = 6 from by omega)] at hp
      subst c1
      exact ih fc fn' cn' s' hs' b1 hm2 h5 hp
theorem xk_v {post : Int32 → Prop} {c : Int32} (hV : vl_R nv kd ct a_valueKind a_amount a_parts a_fieldValues b_vKind b_vNum b_vCnt b_vStr b_vItem b_vKey b_vVal) (r1 : 1 ≤ root) (r2 : root ≤ nv) {es : List (Nat × Nat × Nat × Nat × Nat × Nat)} {fc fn cn s : Nat} {hs : List Nat} (h : rn_s PS kd root a_frameValue a_frameList a_frameNext a_frameBody b_fv b_cKind b_cSlot b_cTok b_cVal b_cIdx es fc fn cn) (hm : rn_m M TP ST nv es s hs) (h5 : fc ≤ 5) (hp : post (lk_v root kd ct a_parts a_fieldValues es c)) : wpX_lookUp post (f_openMarkLength, f_closeMarkLength, f_openCount, f_compileFrom, f_compileTo, nI nv, f_outCap, f_outCount, nI fc, f_valueTextLength, f_renderAt, f_renderTo, f_returnAt, f_finished, f_overflowed, a_text, a_cellKind, a_cellName, a_tagEnd, a_sectionEnd, a_textLength, a_slotStatus, a_slotError, a_openMark, a_closeMark, a_openTags, a_valueKind, a_amount, a_parts, a_fieldValues, a_out, a_frameValue, a_frameList, a_frameNext, a_frameBody, a_valueText) c := by
  have pos := rn_sn es fc fn cn h
  unfold lk_v at hp
  unfold wpX_lookUp
  by_cases z : c = 46
  · rw [if_pos z] at hp
    refine br_t z (br_f (nI_nle (by omega) (by omega)) ?_)
    rw [la_s (by omega), nI_clamp (by omega), (rn_st es fc fn cn h).1]
    exact ⟨vp_in_nI (by omega) (by omega), hp⟩
  · rw [if_neg z] at hp
    exact br_f z (nm_e (xk_l hV r1 r2 es fc fn cn s hs h hm h5 hp))
theorem yk_fr {post : Int32 → Prop} {c : Int32} {v i n : Nat} (hV : vl_R nv kd ct a_valueKind a_amount a_parts a_fieldValues b_vKind b_vNum b_vCnt b_vStr b_vItem b_vKey b_vVal) (hi : i < 8) (hv1 : 1 ≤ v) (hv2 : v ≤ nv) (hf : b_fv i = nI v) (h1 : ¬ vf_f kd ct a_parts a_fieldValues c v = 0 → post (vf_f kd ct a_parts a_fieldValues c v)) (h0 : vf_f kd ct a_parts a_fieldValues c v = 0 → wY_lookup_36 post c g_ol g_cl g_newOl g_newCl g_tagName g_parseErr g_openCount (nI nv) g_outLen g_outCap g_fn g_cn b_text b_len b_stat b_errPos b_removed b_tType b_tA b_tB b_tName b_tMatch b_tCount b_oc b_cc b_newO b_newC b_openName b_openTok b_vKind b_vNum b_vCnt b_vStr b_vItem b_vKey b_vVal b_out b_fv b_cKind b_cSlot b_cTok b_cVal b_cIdx b_dig n (nI i - 1)) : wY_lookup_36 post c g_ol g_cl g_newOl g_newCl g_tagName g_parseErr g_openCount (nI nv) g_outLen g_outCap g_fn g_cn b_text b_len b_stat b_errPos b_removed b_tType b_tA b_tB b_tName b_tMatch b_tCount b_oc b_cc b_newO b_newC b_openName b_openTok b_vKind b_vNum b_vCnt b_vStr b_vItem b_vKey b_vVal b_out b_fv b_cKind b_cSlot b_cTok b_cVal b_cIdx b_dig (n + 1) (nI i) := by
  obtain ⟨j, rfl⟩ : ∃ j, v = j + 1 := ⟨v - 1, by omega⟩
  obtain ⟨g1, g2, g3, g4, g5, _⟩ := hV.2 j (by omega)
  refine br_f (nI_pos (by omega)) ⟨vp_in_nI hi (by omega), nm_r (e' := nI (j + 1)) (by rw [nI_clamp (by omega)]; exact hf) (yl_kin hV.1 (by omega) g5 ?_)⟩
  refine pk_eq (kd (j + 1)) 6 (fun z => yl_fof hV (by omega) ⟨fun w => nm_r (Int32.sub_eq_add_neg _ _).symm (h0 w), h1⟩) (fun z => nm_r (Int32.sub_eq_add_neg _ _).symm (h0 ?_))
  unfold vf_f
  rw [if_neg z]
theorem yk_l {post : Int32 → Prop} {c : Int32} (hV : vl_R nv kd ct a_valueKind a_amount a_parts a_fieldValues b_vKind b_vNum b_vCnt b_vStr b_vItem b_vKey b_vVal) (r1 : 1 ≤ root) (r2 : root ≤ nv) : ∀ (es : List (Nat × Nat × Nat × Nat × Nat × Nat)) (fc fn cn s : Nat) (hs : List Nat), rn_s PS kd root a_frameValue a_frameList a_frameNext a_frameBody b_fv b_cKind b_cSlot b_cTok b_cVal b_cIdx es fc fn cn → rn_m M TP ST nv es s hs → fn ≤ 8 → post (rn_l root (vf_f kd ct a_parts a_fieldValues c) es) → ∃ n, wY_lookup_36 post c g_ol g_cl g_newOl g_newCl g_tagName g_parseErr g_openCount (nI nv) g_outLen g_outCap g_fn g_cn b_text b_len b_stat b_errPos b_removed b_tType b_tA b_tB b_tName b_tMatch b_tCount b_oc b_cc b_newO b_newC b_openName b_openTok b_vKind b_vNum b_vCnt b_vStr b_vItem b_vKey b_vVal b_out b_fv b_cKind b_cSlot b_cTok b_cVal b_cIdx b_dig n (nI fn - 1) := by
  intro es
  induction es with
  | nil =>
    intro fc fn cn s hs h hm h5 hp
    obtain ⟨a1, a2, a3, a4, a5⟩ := h
    subst a2
    refine ⟨2, yk_fr (i := 0) hV (by omega) r1 r2 a5 (fun _ => hp) (fun z => br_t (by decide) ?_)⟩
    simp only [rn_l, z] at hp
    exact hp
  | cons e es ih =>
    intro fc fn cn s hs h hm h5 hp
    obtain ⟨fc', fn', cn', b1, b2, b3, b4, b5, b6⟩ := h
    have hm' : ∃ s' hs', rn_m M TP ST nv es s' hs' := by
      rcases hm with ⟨g1, g2, g3, g4, g5, g6, g7, g8⟩ | ⟨g1, g2, g3, g4, g5, g6, g7⟩
      · exact ⟨_, _, g8⟩
      · exact ⟨_, _, g7⟩
    obtain ⟨s', hs', hm2⟩ := hm'
    rcases b6 with ⟨k, c1, c2, c3, c4, c5, c6, c7⟩ | ⟨k, c1, c2, c3, c4⟩ | ⟨k, c1, c2⟩
    · have hv : 1 ≤ e.2.2.2.2.2 ∧ e.2.2.2.2.2 ≤ nv := by
        rcases hm with ⟨g1, _⟩ | ⟨g1, g2, g3, g4, g5, g6, g7⟩
        · omega
        · exact (g6 k).2
      simp only [rn_l, if_pos k] at hp
      subst c2
      rw [nI_pred]
      by_cases z : vf_f kd ct a_parts a_fieldValues c e.2.2.2.2.2 = 0
      · rw [if_pos z] at hp
        obtain ⟨n, hn⟩ := ih fc' fn' cn' s' hs' b1 hm2 (by omega) hp
        exact ⟨n + 1, yk_fr hV (by omega) hv.1 hv.2 c6 (fun w => absurd z w) (fun _ => hn)⟩
      · rw [if_neg z] at hp
        exact ⟨1, yk_fr hV (by omega) hv.1 hv.2 c6 (fun _ => hp) (fun w => absurd w z)⟩
    · simp only [rn_l, if_neg (show ¬ e.1 = 6 from by omega)] at hp
      subst c2
      exact ih fc' fn cn' s' hs' b1 hm2 h5 hp
    · simp only [rn_l, if_neg (show ¬ e.1 = 6 from by omega)] at hp
      subst c2
      exact ih fc' fn cn' s' hs' b1 hm2 h5 hp
theorem yk_v {post : Int32 → Prop} {c : Int32} (hV : vl_R nv kd ct a_valueKind a_amount a_parts a_fieldValues b_vKind b_vNum b_vCnt b_vStr b_vItem b_vKey b_vVal) (r1 : 1 ≤ root) (r2 : root ≤ nv) {es : List (Nat × Nat × Nat × Nat × Nat × Nat)} {fc fn cn s : Nat} {hs : List Nat} (h : rn_s PS kd root a_frameValue a_frameList a_frameNext a_frameBody b_fv b_cKind b_cSlot b_cTok b_cVal b_cIdx es fc fn cn) (hm : rn_m M TP ST nv es s hs) (h5 : fn ≤ 8) (hp : post (lk_v root kd ct a_parts a_fieldValues es c)) : wpY_lookup post (g_ol, g_cl, g_newOl, g_newCl, g_tagName, g_parseErr, g_openCount, nI nv, g_outLen, g_outCap, nI fn, g_cn, b_text, b_len, b_stat, b_errPos, b_removed, b_tType, b_tA, b_tB, b_tName, b_tMatch, b_tCount, b_oc, b_cc, b_newO, b_newC, b_openName, b_openTok, b_vKind, b_vNum, b_vCnt, b_vStr, b_vItem, b_vKey, b_vVal, b_out, b_fv, b_cKind, b_cSlot, b_cTok, b_cVal, b_cIdx, b_dig) c := by
  have pos := rn_sn es fc fn cn h
  unfold lk_v at hp
  unfold wpY_lookup
  by_cases z : c = 46
  · rw [if_pos z] at hp
    refine br_t z (br_f (nI_nle (by omega) (by omega)) ?_)
    rw [la_s (by omega), nI_clamp (by omega), (rn_st es fc fn cn h).2]
    exact ⟨vp_in_nI (by omega) (by omega), hp⟩
  · rw [if_neg z] at hp
    exact br_f z (nm_e (yk_l hV r1 r2 es fc fn cn s hs h hm h5 hp))
/-- truthy -/
def tr_P (kd ct : Nat → Nat) (v : Nat) : Prop := kd v ≠ 1 ∧ (kd v = 5 → ct v ≠ 0)
theorem xk_f {post : Int32 → Prop} (hV : vl_R nv kd ct a_valueKind a_amount a_parts a_fieldValues b_vKind b_vNum b_vCnt b_vStr b_vItem b_vKey b_vVal) {j : Nat} (hj : j < nv) (h1 : tr_P kd ct (j + 1) → post 0) (h0 : ¬ tr_P kd ct (j + 1) → post 1) : wpX_isFalsey post (f_openMarkLength, f_closeMarkLength, f_openCount, f_compileFrom, f_compileTo, nI nv, f_outCap, f_outCount, f_frameCount, f_valueTextLength, f_renderAt, f_renderTo, f_returnAt, f_finished, f_overflowed, a_text, a_cellKind, a_cellName, a_tagEnd, a_sectionEnd, a_textLength, a_slotStatus, a_slotError, a_openMark, a_closeMark, a_openTags, a_valueKind, a_amount, a_parts, a_fieldValues, a_out, a_frameValue, a_frameList, a_frameNext, a_frameBody, a_valueText) (nI (j + 1)) := by
  obtain ⟨g1, g2, g3, g4, g5, g6, g7, g8, _⟩ := hV.2 j hj
  have hnv := hV.1
  have n0 : ¬ nI (kd (j + 1)) = 0 := nI_ne0 (by omega) (by omega)
  unfold wpX_isFalsey
  refine xl_kin hnv hj g4 (pk_eq (kd (j + 1)) 5 (fun z => ⟨vp_in_nI (by omega) (by omega), ?_⟩) (fun z => ?_))
  · rw [nI_clamp (by omega), g8 (by omega)]
    refine pk_eq (ct (j + 1)) 0 (fun w => br_f n0 (br_f (fun y => by have := la_im (b := 1) y (by omega) (by omega); omega) (br_f (by decide) (h0 (fun y => y.2 z w))))) (fun w => br_f n0 (br_f (fun y => by have := la_im (b := 1) y (by omega) (by omega); omega) (br_t rfl (h1 ⟨by omega, fun _ => w⟩))))
  · refine br_f n0 (pk_eq (kd (j + 1)) 1 (fun w => h0 (fun y => y.1 w)) (fun w => br_t rfl (h1 ⟨w, fun y => absurd y z⟩)))
theorem xk_f0 {post : Int32 → Prop} (h : post 1) : wpX_isFalsey post (f_openMarkLength, f_closeMarkLength, f_openCount, f_compileFrom, f_compileTo, nI nv, f_outCap, f_outCount, f_frameCount, f_valueTextLength, f_renderAt, f_renderTo, f_returnAt, f_finished, f_overflowed, a_text, a_cellKind, a_cellName, a_tagEnd, a_sectionEnd, a_textLength, a_slotStatus, a_slotError, a_openMark, a_closeMark, a_openTags, a_valueKind, a_amount, a_parts, a_fieldValues, a_out, a_frameValue, a_frameList, a_frameNext, a_frameBody, a_valueText) 0 := by
  unfold wpX_isFalsey
  exact xl_kout (Or.inl (by decide)) (br_f (by decide) (br_t rfl h))
theorem yk_t {post : Int32 → Prop} (hV : vl_R nv kd ct a_valueKind a_amount a_parts a_fieldValues b_vKind b_vNum b_vCnt b_vStr b_vItem b_vKey b_vVal) {j : Nat} (hj : j < nv) (h1 : tr_P kd ct (j + 1) → post 1) (h0 : ¬ tr_P kd ct (j + 1) → post 0) : wpY_truthy post (g_ol, g_cl, g_newOl, g_newCl, g_tagName, g_parseErr, g_openCount, nI nv, g_outLen, g_outCap, g_fn, g_cn, b_text, b_len, b_stat, b_errPos, b_removed, b_tType, b_tA, b_tB, b_tName, b_tMatch, b_tCount, b_oc, b_cc, b_newO, b_newC, b_openName, b_openTok, b_vKind, b_vNum, b_vCnt, b_vStr, b_vItem, b_vKey, b_vVal, b_out, b_fv, b_cKind, b_cSlot, b_cTok, b_cVal, b_cIdx, b_dig) (nI (j + 1)) := by
  obtain ⟨g1, g2, g3, g4, g5, g6, g7, g8, _⟩ := hV.2 j hj
  have hnv := hV.1
  unfold wpY_truthy
  refine yl_kin hnv hj g5 (br_f (nI_ne0 (by omega) (by omega)) (pk_eq (kd (j + 1)) 1 (fun w => h0 (fun y => y.1 w)) (fun w => pk_eq (kd (j + 1)) 5 (fun z => ⟨by rw [nI_pred]; exact vp_in_nI (by omega) (by omega), ?_⟩) (fun z => h1 ⟨w, fun y => absurd y z⟩))))
  rw [nI_pred, nI_clamp (by omega), g6]
  exact pk_eq (ct (j + 1)) 0 (fun y => h0 (fun x => x.2 z y)) (fun y => h1 ⟨w, fun _ => y⟩)
theorem yk_t0 {post : Int32 → Prop} (h : post 0) : wpY_truthy post (g_ol, g_cl, g_newOl, g_newCl, g_tagName, g_parseErr, g_openCount, nI nv, g_outLen, g_outCap, g_fn, g_cn, b_text, b_len, b_stat, b_errPos, b_removed, b_tType, b_tA, b_tB, b_tName, b_tMatch, b_tCount, b_oc, b_cc, b_newO, b_newC, b_openName, b_openTok, b_vKind, b_vNum, b_vCnt, b_vStr, b_vItem, b_vKey, b_vVal, b_out, b_fv, b_cKind, b_cSlot, b_cTok, b_cVal, b_cIdx, b_dig) 0 := by
  unfold wpY_truthy
  exact yl_kout (Or.inl (by decide)) (br_t rfl h)
end LLLK
end
section
section LLNE
section TK
variable {s n m : Nat} {T K N E G R ty tA tB tN tM : Nat → Int32} {ps tp : Nat → Nat} {st : Nat → List Nat}
theorem tk_op (h : tk_F s n T K N E G R ty tA tB tN tM m ps tp st) {t : Nat} (ht : t < m) (h6 : tp t = 6 ∨ tp t = 7) : ∃ c, t < c ∧ c < m ∧ tp c = 8 ∧ st c = t :: st t ∧ st (c + 1) = st t ∧ tM (s * 100 + t) = nI c ∧ G (s * 96 + ps t) = nI (s * 96 + ps (c + 1)) := by
  obtain ⟨a, b, ⟨c1, c2, c3, c4, c5⟩, d, _⟩ := h
  rcases c5 t ht h6 with z | ⟨c, z1, z2, z3, z4⟩
  · rw [d] at z; exact absurd z (by simp)
  · obtain ⟨w, w1, w2, w3, w4, w5⟩ := c4 c z2 z3
    have e : w = t := by
      rw [z4] at w2
      exact (List.cons.inj w2).1.symm
    subst e
    refine ⟨c, z1, z2, z3, z4, ?_, w4, w5⟩
    rw [c2 c z2, if_neg (by omega), if_pos z3, z4]
    rfl
theorem tk_cl (h : tk_F s n T K N E G R ty tA tB tN tM m ps tp st) {t : Nat} (ht : t < m) (h8 : tp t = 8) : ∃ w, w < t ∧ st t = w :: st w ∧ (tp w = 6 ∨ tp w = 7) ∧ tM (s * 100 + w) = nI t ∧ st (t + 1) = st w := by
  obtain ⟨a, b, ⟨c1, c2, c3, c4, c5⟩, d, _⟩ := h
  obtain ⟨w, w1, w2, w3, w4, w5⟩ := c4 t ht h8
  refine ⟨w, w1, w2, ?_, w4, ?_⟩
  · rcases (c3 t (by omega)).2 with z | ⟨x, x1, x2, x3⟩
    · rw [z] at w2; exact absurd w2 (by simp)
    · have e : x = w := by
        rw [w2] at x2
        exact (List.cons.inj x2).1.symm
      rw [← e]; exact x3
  · rw [c2 t ht, if_neg (by omega), if_pos h8, w2]
    rfl
/-- an opened section stays on the stack until its close -/
theorem tk_out (h : tk_F s n T K N E G R ty tA tB tN tM m ps tp st) {t : Nat} : ∀ d u, t < u → u + d ≤ m → t ∉ st u → t ∉ st (u + d) := by
  obtain ⟨a, b, ⟨c1, c2, c3, c4, c5⟩, d0, _⟩ := h
  intro d
  induction d with
  | zero => intro u _ _ hn; exact hn
  | succ d ih =>
    intro u hu hd hn
    have hi := ih u hu (by omega) hn
    have e : u + (d + 1) = u + d + 1 := by omega
    rw [e, c2 (u + d) (by omega)]
    split
    · intro w
      rcases List.mem_cons.mp w with w | w
      · omega
      · exact hi w
    · split
      · intro w
        exact hi (List.mem_of_mem_tail w)
      · exact hi
theorem tk_stay (h : tk_F s n T K N E G R ty tA tB tN tM m ps tp st) {t c u : Nat} (hc : c ≤ m) (h1 : t < u) (h2 : u ≤ c) (e : st c = t :: st t) : t ∈ st u := by
  apply Classical.byContradiction
  intro w
  have := tk_out h (c - u) u h1 (by omega) w
  rw [show u + (c - u) = c from by omega, e] at this
  exact this (List.mem_cons.mpr (Or.inl rfl))
/-- a section within another ends ahead of it -/
theorem tk_nest (h : tk_F s n T K N E G R ty tA tB tN tM m ps tp st) {t c w c' : Nat} (hc : c < m) (hc' : c' < m) (h6 : tp t = 6 ∨ tp t = 7) (e : st c = t :: st t) (hw : st t = w :: st w) (e' : st c' = w :: st w) (h8' : tp c' = 8) (h2 : t ≤ c') (htc : t < c) : c < c' := by
  have hs := h.2.2.1
  have hb := tk_sb hs m
  have hwt : w < t := hb t (by omega) (by omega) w (by rw [hw]; exact List.mem_cons.mpr (Or.inl rfl))
  apply Classical.byContradiction
  intro q
  by_cases z1 : c' = t
  · rw [z1] at h8'; omega
  · have hm := tk_stay h (by omega) (show t < c' from by omega) (by omega) e
    rw [e', ← hw] at hm
    have := hb t (by omega) (by omega) t hm
    omega
theorem tk_oth (h : tk_F s n T K N E G R ty tA tB tN tM m ps tp st) {t : Nat} (ht : t < m) (h6 : tp t ≠ 6) (h7 : tp t ≠ 7) (h8 : tp t ≠ 8) : st (t + 1) = st t := by
  have := h.2.2.1.2.1 t ht
  rw [this, if_neg (by omega), if_neg h8]
theorem tk_beg (h : tk_F s n T K N E G R ty tA tB tN tM m ps tp st) {t : Nat} (ht : t < m) (h6 : tp t = 6 ∨ tp t = 7) : st (t + 1) = t :: st t ∧ (st t).length < 2 := by
  have e := h.2.2.1.2.1 t ht
  rw [if_pos h6] at e
  have := (h.2.2.1.2.2.1 (t + 1) (by omega)).1
  rw [e, List.length_cons] at this
  exact ⟨e, by omega⟩
end TK
/-- where the walk stands among the begun sections -/
def rq_P (MT : Nat → Nat → Nat) : List (Nat × Nat × Nat × Nat × Nat × Nat) → Nat → Nat → Prop
  | [], _, _ => True
  | e :: es, s, t => (e.1 = 9 ∧ rq_P MT es 0 (e.2.2.1 + 1)) ∨ (e.1 ≠ 9 ∧ e.2.2.1 < t ∧ t ≤ MT s e.2.2.1 ∧ rq_P MT es s (MT s e.2.2.1 + 1))
/-- the data of the compiled slots while a render runs -/
def sd_P (ss : Nat → Int32) (ln M : Nat → Nat) (PS TP MT : Nat → Nat → Nat) (ST : Nat → Nat → List Nat) (tx K N E G R ty tA tB tN tM tC : Nat → Int32) : Prop :=
  ∀ s, s < 4 → ss s = 0 → ln s ≤ 96 ∧ tk_F s (ln s) (fun i => tx (s * 96 + i)) K N E G R ty tA tB tN tM (M s) (PS s) (TP s) (ST s) ∧ tC s = nI (M s) ∧ (∀ t, t < M s → MT s t = (tM (s * 100 + t)).toNatClampNeg)
section SD
variable {ss : Nat → Int32} {ln M : Nat → Nat} {PS TP MT : Nat → Nat → Nat} {ST : Nat → Nat → List Nat} {tx K N E G R ty tA tB tN tM tC : Nat → Int32} {nv : Nat}
theorem sd_op (h : sd_P ss ln M PS TP MT ST tx K N E G R ty tA tB tN tM tC) {s t : Nat} (hs : s < 4) (h0 : ss s = 0) (ht : t < M s) (h6 : TP s t = 6 ∨ TP s t = 7) : t < MT s t ∧ MT s t < M s ∧ TP s (MT s t) = 8 ∧ ST s (MT s t) = t :: ST s t ∧ ST s (MT s t + 1) = ST s t ∧ tM (s * 100 + t) = nI (MT s t) ∧ G (s * 96 + PS s t) = nI (s * 96 + PS s (MT s t + 1)) := by
  obtain ⟨hl, hF, hC, hM⟩ := h s hs h0
  have hm := tk_mp hF.1
  obtain ⟨c, c1, c2, c3, c4, c5, c6, c7⟩ := tk_op hF ht h6
  have e : MT s t = c := by rw [hM t ht, c6]; exact nI_clamp (by omega)
  rw [e]
  exact ⟨c1, c2, c3, c4, c5, c6, c7⟩
theorem sd_cl (h : sd_P ss ln M PS TP MT ST tx K N E G R ty tA tB tN tM tC) {s t : Nat} (hs : s < 4) (h0 : ss s = 0) (ht : t < M s) (h8 : TP s t = 8) : ∃ w, w < t ∧ ST s t = w :: ST s w ∧ (TP s w = 6 ∨ TP s w = 7) ∧ MT s w = t ∧ ST s (t + 1) = ST s w := by
  obtain ⟨hl, hF, hC, hM⟩ := h s hs h0
  have hm := tk_mp hF.1
  obtain ⟨w, w1, w2, w3, w4, w5⟩ := tk_cl hF ht h8
  refine ⟨w, w1, w2, w3, ?_, w5⟩
  rw [hM w (by omega), w4]
  exact nI_clamp (by omega)
/-- the place moves on within the zone -/
theorem rq_go (h : sd_P ss ln M PS TP MT ST tx K N E G R ty tA tB tN tM tC) {s t : Nat} (hs : s < 4) (h0 : ss s = 0) (ht : t < M s) (n8 : TP s t ≠ 8) {es : List (Nat × Nat × Nat × Nat × Nat × Nat)} (hm : rn_m M TP ST nv es s (ST s t)) (hq : rq_P MT es s t) : rq_P MT es s (t + 1) := by
  cases es with
  | nil => trivial
  | cons e es =>
    rcases hq with ⟨a, b⟩ | ⟨a, b, c, d⟩
    · exact Or.inl ⟨a, b⟩
    · refine Or.inr ⟨a, by omega, ?_, d⟩
      rcases hm with ⟨g1, _⟩ | ⟨g1, g2, g3, g4, g5, g6, g7⟩
      · exact absurd g1 a
      · have o := sd_op h hs h0 g3 (by rw [← g4]; exact g1)
        by_cases z : t = MT s e.2.2.1
        · rw [z] at n8; exact absurd o.2.2.1 n8
        · omega
/-- and behind a section that begins here -/
theorem rq_sk (h : sd_P ss ln M PS TP MT ST tx K N E G R ty tA tB tN tM tC) {s t : Nat} (hs : s < 4) (h0 : ss s = 0) (ht : t < M s) (h6 : TP s t = 6 ∨ TP s t = 7) {es : List (Nat × Nat × Nat × Nat × Nat × Nat)} (hm : rn_m M TP ST nv es s (ST s t)) (hq : rq_P MT es s t) : rq_P MT es s (MT s t + 1) := by
  have o := sd_op h hs h0 ht h6
  cases es with
  | nil => trivial
  | cons e es =>
    rcases hq with ⟨a, b⟩ | ⟨a, b, c, d⟩
    · exact Or.inl ⟨a, b⟩
    · rcases hm with ⟨g1, _⟩ | ⟨g1, g2, g3, g4, g5, g6, g7⟩
      · exact absurd g1 a
      · have o' := sd_op h hs h0 g3 (by rw [← g4]; exact g1)
        have := tk_nest (h s hs h0).2.1 o.2.1 o'.2.1 h6 o.2.2.2.1 g5 o'.2.2.2.1 o'.2.2.1 c o.1
        exact Or.inr ⟨a, by omega, by omega, d⟩
/-- the zone's end -/
theorem rq_e (h : sd_P ss ln M PS TP MT ST tx K N E G R ty tA tB tN tM tC) {s t : Nat} (hs : s < 4) (h0 : ss s = 0) (ht : t ≤ M s) {hl : List Nat} {es : List (Nat × Nat × Nat × Nat × Nat × Nat)} (hm : rn_m M TP ST nv es s hl) (hq : rq_P MT es s t) : PS s t ≤ rn_e PS MT ln es := by
  have hF := (h s hs h0).2.1
  cases es with
  | nil =>
    have e := hm.1
    subst e
    exact tk_ap hF.1 ht
  | cons e es =>
    rcases hm with ⟨g1, g2, g3, _⟩ | ⟨g1, g2, g3, g4, g5, g6, g7⟩
    · simp only [rn_e, if_pos g1]
      rw [← g3]
      exact tk_ap hF.1 ht
    · have n9 : ¬ e.1 = 9 := by omega
      simp only [rn_e, if_neg n9, rn_z]
      rw [g2]
      rcases hq with ⟨a, b⟩ | ⟨a, b, c, d⟩
      · exact absurd a n9
      · have o := sd_op h hs h0 g3 (by rw [← g4]; exact g1)
        exact tk_le hF.1 (by omega) (by omega)
end SD
end LLNE
end
section
section LLXS
variable {f_openMarkLength f_closeMarkLength f_openCount f_compileFrom f_compileTo f_valueCount f_outCap f_outCount f_frameCount f_valueTextLength f_renderAt f_renderTo f_returnAt f_finished f_overflowed : Int32} {a_text a_cellKind a_cellName a_tagEnd a_sectionEnd a_textLength a_slotStatus a_slotError a_openMark a_closeMark a_openTags a_valueKind a_amount a_parts a_fieldValues a_out a_frameValue a_frameList a_frameNext a_frameBody a_valueText : Nat → Int32} {g_ol g_cl g_newOl g_newCl g_tagName g_parseErr g_openCount g_nVals g_outLen g_outCap g_fn g_cn : Int32} {b_text b_len b_stat b_errPos b_removed b_tType b_tA b_tB b_tName b_tMatch b_tCount b_oc b_cc b_newO b_newC b_openName b_openTok b_vKind b_vNum b_vCnt b_vStr b_vItem b_vKey b_vVal b_out b_fv b_cKind b_cSlot b_cTok b_cVal b_cIdx b_dig : Nat → Int32} {cap nv root fc fn cn q rt e stp n sl : Nat} {t : (Nat → Int32) × Nat × Int32} {kd ct M : Nat → Nat} {PS TP : Nat → Nat → Nat} {ST : Nat → Nat → List Nat} {es : List (Nat × Nat × Nat × Nat × Nat × Nat)} {hs : List Nat} {post : Int32 → SX → Prop}
theorem cq (hq : q < rt) (hr : rt ≤ 384) : (nI q).toNatClampNeg = q := nI_clamp (by omega)
theorem xs_lit (hst : stp < 2410256) (hz : t.2.2 = 0) (hc : cap ≤ 256) (hq : q < rt) (hr : rt ≤ 384) (g : em_g cap t) (hK : a_cellKind q = nI 0) (h : wX_render_30 post n (nI (stp + 1)) f_openMarkLength f_closeMarkLength f_openCount f_compileFrom f_compileTo (nI nv) (nI cap) (nI (em_1 cap t (a_text q)).2.1) (nI fc) f_valueTextLength (nI (q + 1)) (nI rt) f_returnAt 0 ((em_1 cap t (a_text q)).2.2) a_text a_cellKind a_cellName a_tagEnd a_sectionEnd a_textLength a_slotStatus a_slotError a_openMark a_closeMark a_openTags a_valueKind a_amount a_parts a_fieldValues ((em_1 cap t (a_text q)).1) a_frameValue a_frameList a_frameNext a_frameBody a_valueText) : wX_render_30 post (n + 1) (nI stp) f_openMarkLength f_closeMarkLength f_openCount f_compileFrom f_compileTo (nI nv) (nI cap) (nI (t).2.1) (nI fc) f_valueTextLength (nI q) (nI rt) f_returnAt 0 ((t).2.2) a_text a_cellKind a_cellName a_tagEnd a_sectionEnd a_textLength a_slotStatus a_slotError a_openMark a_closeMark a_openTags a_valueKind a_amount a_parts a_fieldValues ((t).1) a_frameValue a_frameList a_frameNext a_frameBody a_valueText := by
  have e := cq hq hr
  exact br_f (nI_ge (b := 2410256) hst (by decide)) (br_t rfl (br_t hz (br_t (nI_lt hq (by omega)) ⟨vp_in_nI (by omega) (by omega), nm_r (e' := nI 0) (by rw [nI_clamp (by omega)]; exact hK) (br_f (by decide) (br_f (by decide) (br_t rfl (nm_r (nI_1 _) ⟨vp_in_nI (by omega) (by omega), xe_1 hc g (nm_r (nI_1 _) (by rw [e]; exact h))⟩))))⟩)))
theorem xs_rem (hst : stp < 2410256) (hz : t.2.2 = 0) (hc : cap ≤ 256) (hq : q < rt) (hr : rt ≤ 384) (hK : a_cellKind q = nI 1) (h : wX_render_30 post n (nI (stp + 1)) f_openMarkLength f_closeMarkLength f_openCount f_compileFrom f_compileTo (nI nv) (nI cap) (nI (t).2.1) (nI fc) f_valueTextLength (nI (q + 1)) (nI rt) f_returnAt 0 ((t).2.2) a_text a_cellKind a_cellName a_tagEnd a_sectionEnd a_textLength a_slotStatus a_slotError a_openMark a_closeMark a_openTags a_valueKind a_amount a_parts a_fieldValues ((t).1) a_frameValue a_frameList a_frameNext a_frameBody a_valueText) : wX_render_30 post (n + 1) (nI stp) f_openMarkLength f_closeMarkLength f_openCount f_compileFrom f_compileTo (nI nv) (nI cap) (nI (t).2.1) (nI fc) f_valueTextLength (nI q) (nI rt) f_returnAt 0 ((t).2.2) a_text a_cellKind a_cellName a_tagEnd a_sectionEnd a_textLength a_slotStatus a_slotError a_openMark a_closeMark a_openTags a_valueKind a_amount a_parts a_fieldValues ((t).1) a_frameValue a_frameList a_frameNext a_frameBody a_valueText :=
  br_f (nI_ge (b := 2410256) hst (by decide)) (br_t rfl (br_t hz (br_t (nI_lt hq (by omega)) ⟨vp_in_nI (by omega) (by omega), nm_r (e' := nI 1) (by rw [nI_clamp (by omega)]; exact hK) (br_f (by decide) (br_f (by decide) (br_f (by decide) (br_t rfl (nm_r (nI_1 _) (nm_r (nI_1 _) h))))))⟩)))
theorem xs_sk4 (hst : stp < 2410256) (hz : t.2.2 = 0) (hc : cap ≤ 256) (hq : q < rt) (hr : rt ≤ 384) (hK : a_cellKind q = nI 4) (hE : a_tagEnd q = nI e) (h : wX_render_30 post n (nI (stp + 1)) f_openMarkLength f_closeMarkLength f_openCount f_compileFrom f_compileTo (nI nv) (nI cap) (nI (t).2.1) (nI fc) f_valueTextLength (nI e) (nI rt) f_returnAt 0 ((t).2.2) a_text a_cellKind a_cellName a_tagEnd a_sectionEnd a_textLength a_slotStatus a_slotError a_openMark a_closeMark a_openTags a_valueKind a_amount a_parts a_fieldValues ((t).1) a_frameValue a_frameList a_frameNext a_frameBody a_valueText) : wX_render_30 post (n + 1) (nI stp) f_openMarkLength f_closeMarkLength f_openCount f_compileFrom f_compileTo (nI nv) (nI cap) (nI (t).2.1) (nI fc) f_valueTextLength (nI q) (nI rt) f_returnAt 0 ((t).2.2) a_text a_cellKind a_cellName a_tagEnd a_sectionEnd a_textLength a_slotStatus a_slotError a_openMark a_closeMark a_openTags a_valueKind a_amount a_parts a_fieldValues ((t).1) a_frameValue a_frameList a_frameNext a_frameBody a_valueText :=
  br_f (nI_ge (b := 2410256) hst (by decide)) (br_t rfl (br_t hz (br_t (nI_lt hq (by omega)) ⟨vp_in_nI (by omega) (by omega), nm_r (e' := nI 4) (by rw [nI_clamp (by omega)]; exact hK) (br_f (by decide) (br_f (by decide) (br_f (by decide) (br_f (by decide) (br_f (by decide) (br_f (by decide) (br_t rfl (⟨vp_in_nI (by omega) (by omega), nm_r (e' := nI e) (by rw [nI_clamp (by omega)]; exact hE) (nm_r (nI_1 _) h)⟩))))))))⟩)))
theorem xs_sk5 (hst : stp < 2410256) (hz : t.2.2 = 0) (hc : cap ≤ 256) (hq : q < rt) (hr : rt ≤ 384) (hK : a_cellKind q = nI 5) (hE : a_tagEnd q = nI e) (h : wX_render_30 post n (nI (stp + 1)) f_openMarkLength f_closeMarkLength f_openCount f_compileFrom f_compileTo (nI nv) (nI cap) (nI (t).2.1) (nI fc) f_valueTextLength (nI e) (nI rt) f_returnAt 0 ((t).2.2) a_text a_cellKind a_cellName a_tagEnd a_sectionEnd a_textLength a_slotStatus a_slotError a_openMark a_closeMark a_openTags a_valueKind a_amount a_parts a_fieldValues ((t).1) a_frameValue a_frameList a_frameNext a_frameBody a_valueText) : wX_render_30 post (n + 1) (nI stp) f_openMarkLength f_closeMarkLength f_openCount f_compileFrom f_compileTo (nI nv) (nI cap) (nI (t).2.1) (nI fc) f_valueTextLength (nI q) (nI rt) f_returnAt 0 ((t).2.2) a_text a_cellKind a_cellName a_tagEnd a_sectionEnd a_textLength a_slotStatus a_slotError a_openMark a_closeMark a_openTags a_valueKind a_amount a_parts a_fieldValues ((t).1) a_frameValue a_frameList a_frameNext a_frameBody a_valueText :=
  br_f (nI_ge (b := 2410256) hst (by decide)) (br_t rfl (br_t hz (br_t (nI_lt hq (by omega)) ⟨vp_in_nI (by omega) (by omega), nm_r (e' := nI 5) (by rw [nI_clamp (by omega)]; exact hK) (br_f (by decide) (br_f (by decide) (br_f (by decide) (br_f (by decide) (br_f (by decide) (br_f (by decide) (br_f (by decide) (br_t rfl (⟨vp_in_nI (by omega) (by omega), nm_r (e' := nI e) (by rw [nI_clamp (by omega)]; exact hE) (nm_r (nI_1 _) h)⟩)))))))))⟩)))
theorem xs_v0e (hV : vl_R nv kd ct a_valueKind a_amount a_parts a_fieldValues b_vKind b_vNum b_vCnt b_vStr b_vItem b_vKey b_vVal) (r1 : 1 ≤ root) (r2 : root ≤ nv) (hS : rn_s PS kd root a_frameValue a_frameList a_frameNext a_frameBody b_fv b_cKind b_cSlot b_cTok b_cVal b_cIdx es fc fn cn) (hm : rn_m M TP ST nv es sl hs) (h5 : fc ≤ 5) (g : em_g cap t) (hL : lk_v root kd ct a_parts a_fieldValues es (a_cellName q) = 0) (hc : cap ≤ 256) (hz : t.2.2 = 0) (hq : q < rt) (hr : rt ≤ 384) (hK : a_cellKind q = nI 2) (hE : a_tagEnd q = nI e) : ∀ (post : Int32 → SX → Prop) (n stp : Nat), stp < 2410256 → wX_render_30 post n (nI (stp + 1)) f_openMarkLength f_closeMarkLength f_openCount f_compileFrom f_compileTo (nI nv) (nI cap) (nI (t).2.1) (nI fc) 0 (nI e) (nI rt) f_returnAt 0 ((t).2.2) a_text a_cellKind a_cellName a_tagEnd a_sectionEnd a_textLength a_slotStatus a_slotError a_openMark a_closeMark a_openTags a_valueKind a_amount a_parts a_fieldValues ((t).1) a_frameValue a_frameList a_frameNext a_frameBody a_valueText → wX_render_30 post (n + 1) (nI stp) f_openMarkLength f_closeMarkLength f_openCount f_compileFrom f_compileTo (nI nv) (nI cap) (nI (t).2.1) (nI fc) f_valueTextLength (nI q) (nI rt) f_returnAt 0 ((t).2.2) a_text a_cellKind a_cellName a_tagEnd a_sectionEnd a_textLength a_slotStatus a_slotError a_openMark a_closeMark a_openTags a_valueKind a_amount a_parts a_fieldValues ((t).1) a_frameValue a_frameList a_frameNext a_frameBody a_valueText := by
  intro post n stp hst h
  exact br_f (nI_ge (b := 2410256) hst (by decide)) (br_t rfl (br_t hz (br_t (nI_lt hq (by omega)) ⟨vp_in_nI (by omega) (by omega), nm_r (e' := nI 2) (by rw [nI_clamp (by omega)]; exact hK) (br_f (by decide) (br_f (by decide) (br_f (by decide) (br_f (by decide) (br_t rfl (⟨vp_in_nI (by omega) (by omega), nm_r (e' := nI e) (by rw [nI_clamp (by omega)]; exact hE) ⟨vp_in_nI (by omega) (by omega), by rw [cq hq hr]; exact xk_v hV r1 r2 hS hm h5 (by rw [hL]; exact xt_non ⟨vp_in_nI (by omega) (by omega), br_f (by rw [hK]; decide) ⟨_, xe_var (vl := 0) (esc := true) hc (by omega) (Or.inl ⟨rfl, rfl⟩) 0 0 t g rfl (nm_r (nI_1 _) h)⟩⟩)⟩⟩))))))⟩)))
theorem xs_v1e (hV : vl_R nv kd ct a_valueKind a_amount a_parts a_fieldValues b_vKind b_vNum b_vCnt b_vStr b_vItem b_vKey b_vVal) (r1 : 1 ≤ root) (r2 : root ≤ nv) (hS : rn_s PS kd root a_frameValue a_frameList a_frameNext a_frameBody b_fv b_cKind b_cSlot b_cTok b_cVal b_cIdx es fc fn cn) (hm : rn_m M TP ST nv es sl hs) (h5 : fc ≤ 5) (g : em_g cap t) {j : Nat} (hj : j < nv) (hL : lk_v root kd ct a_parts a_fieldValues es (a_cellName q) = nI (j + 1)) (hc : cap ≤ 256) (hz : t.2.2 = 0) (hq : q < rt) (hr : rt ≤ 384) (hK : a_cellKind q = nI 2) (hE : a_tagEnd q = nI e) : ∃ (vt' : Nat → Int32) (vl : Int32), ∀ (post : Int32 → SX → Prop) (n stp : Nat), stp < 2410256 → wX_render_30 post n (nI (stp + 1)) f_openMarkLength f_closeMarkLength f_openCount f_compileFrom f_compileTo (nI nv) (nI cap) (nI (em_l cap t (tx_l true kd ct a_amount a_parts (j + 1))).2.1) (nI fc) vl (nI e) (nI rt) f_returnAt 0 ((em_l cap t (tx_l true kd ct a_amount a_parts (j + 1))).2.2) a_text a_cellKind a_cellName a_tagEnd a_sectionEnd a_textLength a_slotStatus a_slotError a_openMark a_closeMark a_openTags a_valueKind a_amount a_parts a_fieldValues ((em_l cap t (tx_l true kd ct a_amount a_parts (j + 1))).1) a_frameValue a_frameList a_frameNext a_frameBody vt' → wX_render_30 post (n + 1) (nI stp) f_openMarkLength f_closeMarkLength f_openCount f_compileFrom f_compileTo (nI nv) (nI cap) (nI (t).2.1) (nI fc) f_valueTextLength (nI q) (nI rt) f_returnAt 0 ((t).2.2) a_text a_cellKind a_cellName a_tagEnd a_sectionEnd a_textLength a_slotStatus a_slotError a_openMark a_closeMark a_openTags a_valueKind a_amount a_parts a_fieldValues ((t).1) a_frameValue a_frameList a_frameNext a_frameBody a_valueText := by
  obtain ⟨vt', vl, b1, b2, b3⟩ := xt_txt (f_openMarkLength := f_openMarkLength) (f_closeMarkLength := f_closeMarkLength) (f_openCount := f_openCount) (f_compileFrom := f_compileFrom) (f_compileTo := f_compileTo) (f_outCap := nI cap) (f_outCount := nI (t).2.1) (f_frameCount := nI fc) (f_valueTextLength := f_valueTextLength) (f_renderAt := nI e) (f_renderTo := nI rt) (f_returnAt := f_returnAt) (f_finished := 0) (f_overflowed := (t).2.2) (a_text := a_text) (a_cellKind := a_cellKind) (a_cellName := a_cellName) (a_tagEnd := a_tagEnd) (a_sectionEnd := a_sectionEnd) (a_textLength := a_textLength) (a_slotStatus := a_slotStatus) (a_slotError := a_slotError) (a_openMark := a_openMark) (a_closeMark := a_closeMark) (a_openTags := a_openTags) (a_valueKind := a_valueKind) (a_amount := a_amount) (a_parts := a_parts) (a_fieldValues := a_fieldValues) (a_out := (t).1) (a_frameValue := a_frameValue) (a_frameList := a_frameList) (a_frameNext := a_frameNext) (a_frameBody := a_frameBody) (a_valueText := a_valueText) (esc := true) hV hj
  refine ⟨vt', nI vl, fun post n stp hst h => ?_⟩
  rw [← b2] at h
  exact br_f (nI_ge (b := 2410256) hst (by decide)) (br_t rfl (br_t hz (br_t (nI_lt hq (by omega)) ⟨vp_in_nI (by omega) (by omega), nm_r (e' := nI 2) (by rw [nI_clamp (by omega)]; exact hK) (br_f (by decide) (br_f (by decide) (br_f (by decide) (br_f (by decide) (br_t rfl (⟨vp_in_nI (by omega) (by omega), nm_r (e' := nI e) (by rw [nI_clamp (by omega)]; exact hE) ⟨vp_in_nI (by omega) (by omega), by rw [cq hq hr]; exact xk_v hV r1 r2 hS hm h5 (by rw [hL]; exact b3 _ ⟨vp_in_nI (by omega) (by omega), br_f (by rw [hK]; decide) ⟨_, xe_var (vl := vl) (esc := true) hc b1 (Or.inl ⟨rfl, rfl⟩) vl 0 t g (by omega) (nm_r (nI_1 _) h)⟩⟩)⟩⟩))))))⟩)))
theorem xs_v0r (hV : vl_R nv kd ct a_valueKind a_amount a_parts a_fieldValues b_vKind b_vNum b_vCnt b_vStr b_vItem b_vKey b_vVal) (r1 : 1 ≤ root) (r2 : root ≤ nv) (hS : rn_s PS kd root a_frameValue a_frameList a_frameNext a_frameBody b_fv b_cKind b_cSlot b_cTok b_cVal b_cIdx es fc fn cn) (hm : rn_m M TP ST nv es sl hs) (h5 : fc ≤ 5) (g : em_g cap t) (hL : lk_v root kd ct a_parts a_fieldValues es (a_cellName q) = 0) (hc : cap ≤ 256) (hz : t.2.2 = 0) (hq : q < rt) (hr : rt ≤ 384) (hK : a_cellKind q = nI 3) (hE : a_tagEnd q = nI e) : ∀ (post : Int32 → SX → Prop) (n stp : Nat), stp < 2410256 → wX_render_30 post n (nI (stp + 1)) f_openMarkLength f_closeMarkLength f_openCount f_compileFrom f_compileTo (nI nv) (nI cap) (nI (t).2.1) (nI fc) 0 (nI e) (nI rt) f_returnAt 0 ((t).2.2) a_text a_cellKind a_cellName a_tagEnd a_sectionEnd a_textLength a_slotStatus a_slotError a_openMark a_closeMark a_openTags a_valueKind a_amount a_parts a_fieldValues ((t).1) a_frameValue a_frameList a_frameNext a_frameBody a_valueText → wX_render_30 post (n + 1) (nI stp) f_openMarkLength f_closeMarkLength f_openCount f_compileFrom f_compileTo (nI nv) (nI cap) (nI (t).2.1) (nI fc) f_valueTextLength (nI q) (nI rt) f_returnAt 0 ((t).2.2) a_text a_cellKind a_cellName a_tagEnd a_sectionEnd a_textLength a_slotStatus a_slotError a_openMark a_closeMark a_openTags a_valueKind a_amount a_parts a_fieldValues ((t).1) a_frameValue a_frameList a_frameNext a_frameBody a_valueText := by
  intro post n stp hst h
  exact br_f (nI_ge (b := 2410256) hst (by decide)) (br_t rfl (br_t hz (br_t (nI_lt hq (by omega)) ⟨vp_in_nI (by omega) (by omega), nm_r (e' := nI 3) (by rw [nI_clamp (by omega)]; exact hK) (br_f (by decide) (br_f (by decide) (br_f (by decide) (br_f (by decide) (br_f (by decide) (br_t rfl (⟨vp_in_nI (by omega) (by omega), nm_r (e' := nI e) (by rw [nI_clamp (by omega)]; exact hE) ⟨vp_in_nI (by omega) (by omega), by rw [cq hq hr]; exact xk_v hV r1 r2 hS hm h5 (by rw [hL]; exact xt_non ⟨vp_in_nI (by omega) (by omega), br_t (by rw [hK]; rfl) ⟨_, xe_var (vl := 0) (esc := false) hc (by omega) (Or.inr ⟨rfl, rfl⟩) 0 0 t g rfl (nm_r (nI_1 _) h)⟩⟩)⟩⟩)))))))⟩)))
theorem xs_v1r (hV : vl_R nv kd ct a_valueKind a_amount a_parts a_fieldValues b_vKind b_vNum b_vCnt b_vStr b_vItem b_vKey b_vVal) (r1 : 1 ≤ root) (r2 : root ≤ nv) (hS : rn_s PS kd root a_frameValue a_frameList a_frameNext a_frameBody b_fv b_cKind b_cSlot b_cTok b_cVal b_cIdx es fc fn cn) (hm : rn_m M TP ST nv es sl hs) (h5 : fc ≤ 5) (g : em_g cap t) {j : Nat} (hj : j < nv) (hL : lk_v root kd ct a_parts a_fieldValues es (a_cellName q) = nI (j + 1)) (hc : cap ≤ 256) (hz : t.2.2 = 0) (hq : q < rt) (hr : rt ≤ 384) (hK : a_cellKind q = nI 3) (hE : a_tagEnd q = nI e) : ∃ (vt' : Nat → Int32) (vl : Int32), ∀ (post : Int32 → SX → Prop) (n stp : Nat), stp < 2410256 → wX_render_30 post n (nI (stp + 1)) f_openMarkLength f_closeMarkLength f_openCount f_compileFrom f_compileTo (nI nv) (nI cap) (nI (em_l cap t (tx_l false kd ct a_amount a_parts (j + 1))).2.1) (nI fc) vl (nI e) (nI rt) f_returnAt 0 ((em_l cap t (tx_l false kd ct a_amount a_parts (j + 1))).2.2) a_text a_cellKind a_cellName a_tagEnd a_sectionEnd a_textLength a_slotStatus a_slotError a_openMark a_closeMark a_openTags a_valueKind a_amount a_parts a_fieldValues ((em_l cap t (tx_l false kd ct a_amount a_parts (j + 1))).1) a_frameValue a_frameList a_frameNext a_frameBody vt' → wX_render_30 post (n + 1) (nI stp) f_openMarkLength f_closeMarkLength f_openCount f_compileFrom f_compileTo (nI nv) (nI cap) (nI (t).2.1) (nI fc) f_valueTextLength (nI q) (nI rt) f_returnAt 0 ((t).2.2) a_text a_cellKind a_cellName a_tagEnd a_sectionEnd a_textLength a_slotStatus a_slotError a_openMark a_closeMark a_openTags a_valueKind a_amount a_parts a_fieldValues ((t).1) a_frameValue a_frameList a_frameNext a_frameBody a_valueText := by
  obtain ⟨vt', vl, b1, b2, b3⟩ := xt_txt (f_openMarkLength := f_openMarkLength) (f_closeMarkLength := f_closeMarkLength) (f_openCount := f_openCount) (f_compileFrom := f_compileFrom) (f_compileTo := f_compileTo) (f_outCap := nI cap) (f_outCount := nI (t).2.1) (f_frameCount := nI fc) (f_valueTextLength := f_valueTextLength) (f_renderAt := nI e) (f_renderTo := nI rt) (f_returnAt := f_returnAt) (f_finished := 0) (f_overflowed := (t).2.2) (a_text := a_text) (a_cellKind := a_cellKind) (a_cellName := a_cellName) (a_tagEnd := a_tagEnd) (a_sectionEnd := a_sectionEnd) (a_textLength := a_textLength) (a_slotStatus := a_slotStatus) (a_slotError := a_slotError) (a_openMark := a_openMark) (a_closeMark := a_closeMark) (a_openTags := a_openTags) (a_valueKind := a_valueKind) (a_amount := a_amount) (a_parts := a_parts) (a_fieldValues := a_fieldValues) (a_out := (t).1) (a_frameValue := a_frameValue) (a_frameList := a_frameList) (a_frameNext := a_frameNext) (a_frameBody := a_frameBody) (a_valueText := a_valueText) (esc := false) hV hj
  refine ⟨vt', nI vl, fun post n stp hst h => ?_⟩
  rw [← b2] at h
  exact br_f (nI_ge (b := 2410256) hst (by decide)) (br_t rfl (br_t hz (br_t (nI_lt hq (by omega)) ⟨vp_in_nI (by omega) (by omega), nm_r (e' := nI 3) (by rw [nI_clamp (by omega)]; exact hK) (br_f (by decide) (br_f (by decide) (br_f (by decide) (br_f (by decide) (br_f (by decide) (br_t rfl (⟨vp_in_nI (by omega) (by omega), nm_r (e' := nI e) (by rw [nI_clamp (by omega)]; exact hE) ⟨vp_in_nI (by omega) (by omega), by rw [cq hq hr]; exact xk_v hV r1 r2 hS hm h5 (by rw [hL]; exact b3 _ ⟨vp_in_nI (by omega) (by omega), br_t (by rw [hK]; rfl) ⟨_, xe_var (vl := vl) (esc := false) hc b1 (Or.inr ⟨rfl, rfl⟩) vl 0 t g (by omega) (nm_r (nI_1 _) h)⟩⟩)⟩⟩)))))))⟩)))
theorem xs_push {post : SX → Prop} {v l b : Int32} (h5 : fc < 5) (h : post (f_openMarkLength, f_closeMarkLength, f_openCount, f_compileFrom, f_compileTo, f_valueCount, f_outCap, f_outCount, nI (fc + 1), f_valueTextLength, f_renderAt, f_renderTo, f_returnAt, f_finished, f_overflowed, a_text, a_cellKind, a_cellName, a_tagEnd, a_sectionEnd, a_textLength, a_slotStatus, a_slotError, a_openMark, a_closeMark, a_openTags, a_valueKind, a_amount, a_parts, a_fieldValues, a_out, upd a_frameValue fc v, upd a_frameList fc l, upd a_frameNext fc (nI 1), upd a_frameBody fc b, a_valueText)) : wpX_pushFrame post (f_openMarkLength, f_closeMarkLength, f_openCount, f_compileFrom, f_compileTo, f_valueCount, f_outCap, f_outCount, nI fc, f_valueTextLength, f_renderAt, f_renderTo, f_returnAt, f_finished, f_overflowed, a_text, a_cellKind, a_cellName, a_tagEnd, a_sectionEnd, a_textLength, a_slotStatus, a_slotError, a_openMark, a_closeMark, a_openTags, a_valueKind, a_amount, a_parts, a_fieldValues, a_out, a_frameValue, a_frameList, a_frameNext, a_frameBody, a_valueText) v l b := by
  have e : (nI fc).toNatClampNeg = fc := nI_clamp (by omega)
  have i5 : vp_in (nI fc) 5 := vp_in_nI h5 (by omega)
  exact br_t (nI_lt (b := 5) h5 (by decide)) ⟨i5, nm_r (by rw [e]) ⟨i5, nm_r (by rw [e]) ⟨i5, nm_r (e' := upd a_frameNext fc (nI 1)) (by rw [e]; rfl) ⟨i5, nm_r (by rw [e]) (nm_r (nI_1 _) h)⟩⟩⟩⟩
theorem xs_sec0 (hst : stp < 2410256) (hz : t.2.2 = 0) (hc : cap ≤ 256) (hq : q < rt) (hr : rt ≤ 384) (hV : vl_R nv kd ct a_valueKind a_amount a_parts a_fieldValues b_vKind b_vNum b_vCnt b_vStr b_vItem b_vKey b_vVal) (r1 : 1 ≤ root) (r2 : root ≤ nv) (hS : rn_s PS kd root a_frameValue a_frameList a_frameNext a_frameBody b_fv b_cKind b_cSlot b_cTok b_cVal b_cIdx es fc fn cn) (hm : rn_m M TP ST nv es sl hs) (h5 : fc ≤ 5) (hK : a_cellKind q = nI 6) (hG : a_sectionEnd q = nI e) (hL : lk_v root kd ct a_parts a_fieldValues es (a_cellName q) = 0 ∨ ∃ j, j < nv ∧ lk_v root kd ct a_parts a_fieldValues es (a_cellName q) = nI (j + 1) ∧ ¬ tr_P kd ct (j + 1)) (h : wX_render_30 post n (nI (stp + 1)) f_openMarkLength f_closeMarkLength f_openCount f_compileFrom f_compileTo (nI nv) (nI cap) (nI (t).2.1) (nI fc) f_valueTextLength (nI e) (nI rt) f_returnAt 0 ((t).2.2) a_text a_cellKind a_cellName a_tagEnd a_sectionEnd a_textLength a_slotStatus a_slotError a_openMark a_closeMark a_openTags a_valueKind a_amount a_parts a_fieldValues ((t).1) a_frameValue a_frameList a_frameNext a_frameBody a_valueText) : wX_render_30 post (n + 1) (nI stp) f_openMarkLength f_closeMarkLength f_openCount f_compileFrom f_compileTo (nI nv) (nI cap) (nI (t).2.1) (nI fc) f_valueTextLength (nI q) (nI rt) f_returnAt 0 ((t).2.2) a_text a_cellKind a_cellName a_tagEnd a_sectionEnd a_textLength a_slotStatus a_slotError a_openMark a_closeMark a_openTags a_valueKind a_amount a_parts a_fieldValues ((t).1) a_frameValue a_frameList a_frameNext a_frameBody a_valueText := by
  rcases hL with hL | ⟨j, hj, hL, ht⟩
  · exact br_f (nI_ge (b := 2410256) hst (by decide)) (br_t rfl (br_t hz (br_t (nI_lt hq (by omega)) ⟨vp_in_nI (by omega) (by omega), nm_r (e' := nI 6) (by rw [nI_clamp (by omega)]; exact hK) (br_f (by decide) (br_f (by decide) (br_f (by decide) (br_f (by decide) (br_f (by decide) (br_f (by decide) (br_f (by decide) (br_f (by decide) (br_t rfl (⟨vp_in_nI (by omega) (by omega), by rw [cq hq hr]; exact xk_v hV r1 r2 hS hm h5 (by rw [hL]; exact xk_f0 (br_f (by decide) ⟨vp_in_nI (by omega) (by omega), nm_r (e' := nI e) hG (nm_r (nI_1 _) h)⟩))⟩))))))))))⟩)))
  · exact br_f (nI_ge (b := 2410256) hst (by decide)) (br_t rfl (br_t hz (br_t (nI_lt hq (by omega)) ⟨vp_in_nI (by omega) (by omega), nm_r (e' := nI 6) (by rw [nI_clamp (by omega)]; exact hK) (br_f (by decide) (br_f (by decide) (br_f (by decide) (br_f (by decide) (br_f (by decide) (br_f (by decide) (br_f (by decide) (br_f (by decide) (br_t rfl (⟨vp_in_nI (by omega) (by omega), by rw [cq hq hr]; exact xk_v hV r1 r2 hS hm h5 (by rw [hL]; exact xk_f hV hj (fun y => absurd y ht) (fun _ => br_f (by decide) ⟨vp_in_nI (by omega) (by omega), nm_r (e' := nI e) hG (nm_r (nI_1 _) h)⟩))⟩))))))))))⟩)))
theorem xs_sec1 (hst : stp < 2410256) (hz : t.2.2 = 0) (hc : cap ≤ 256) (hq : q < rt) (hr : rt ≤ 384) (hV : vl_R nv kd ct a_valueKind a_amount a_parts a_fieldValues b_vKind b_vNum b_vCnt b_vStr b_vItem b_vKey b_vVal) (r1 : 1 ≤ root) (r2 : root ≤ nv) (hS : rn_s PS kd root a_frameValue a_frameList a_frameNext a_frameBody b_fv b_cKind b_cSlot b_cTok b_cVal b_cIdx es fc fn cn) (hm : rn_m M TP ST nv es sl hs) (h5 : fc ≤ 5) (h5' : fc < 5) (hK : a_cellKind q = nI 6) (hE : a_tagEnd q = nI e) {j w : Nat} (hj : j < nv) (hL : lk_v root kd ct a_parts a_fieldValues es (a_cellName q) = nI (j + 1)) (ht : tr_P kd ct (j + 1)) (hw5 : kd (j + 1) = 5 → a_parts ((j + 1) * 8) = nI w) (hw : kd (j + 1) ≠ 5 → w = j + 1) (h : wX_render_30 post n (nI (stp + 1)) f_openMarkLength f_closeMarkLength f_openCount f_compileFrom f_compileTo (nI nv) (nI cap) (nI (t).2.1) (nI (fc + 1)) f_valueTextLength (nI e) (nI rt) f_returnAt 0 ((t).2.2) a_text a_cellKind a_cellName a_tagEnd a_sectionEnd a_textLength a_slotStatus a_slotError a_openMark a_closeMark a_openTags a_valueKind a_amount a_parts a_fieldValues ((t).1) (upd a_frameValue fc (nI w)) (upd a_frameList fc (nI (if kd (j + 1) = 5 then j + 1 else 0))) (upd a_frameNext fc (nI 1)) (upd a_frameBody fc (nI e)) a_valueText) : wX_render_30 post (n + 1) (nI stp) f_openMarkLength f_closeMarkLength f_openCount f_compileFrom f_compileTo (nI nv) (nI cap) (nI (t).2.1) (nI fc) f_valueTextLength (nI q) (nI rt) f_returnAt 0 ((t).2.2) a_text a_cellKind a_cellName a_tagEnd a_sectionEnd a_textLength a_slotStatus a_slotError a_openMark a_closeMark a_openTags a_valueKind a_amount a_parts a_fieldValues ((t).1) a_frameValue a_frameList a_frameNext a_frameBody a_valueText := by
  obtain ⟨g1, g2, g3, g4, _⟩ := hV.2 j hj
  have hnv := hV.1
  have eJ : (nI (j + 1)).toNatClampNeg = j + 1 := nI_clamp (by omega)
  refine br_f (nI_ge (b := 2410256) hst (by decide)) (br_t rfl (br_t hz (br_t (nI_lt hq (by omega)) ⟨vp_in_nI (by omega) (by omega), nm_r (e' := nI 6) (by rw [nI_clamp (by omega)]; exact hK) (br_f (by decide) (br_f (by decide) (br_f (by decide) (br_f (by decide) (br_f (by decide) (br_f (by decide) (br_f (by decide) (br_f (by decide) (br_t rfl (⟨vp_in_nI (by omega) (by omega), ?_⟩))))))))))⟩)))
  rw [cq hq hr]
  refine xk_v hV r1 r2 hS hm h5 ?_
  rw [hL]
  refine xk_f hV hj (fun _ => br_t rfl ⟨vp_in_nI (by omega) (by omega), nm_r (e' := nI e) hE ⟨vp_in_nI (by omega) (by omega), ?_⟩⟩) (fun y => absurd ht y)
  by_cases k5 : kd (j + 1) = 5
  · rw [if_pos k5] at h
    refine br_t (by rw [eJ, g4, k5]; rfl) ⟨by rw [la_m8]; exact vp_in_nI (by omega) (by omega), ?_⟩
    rw [la_m8, nI_clamp (by omega), hw5 k5]
    exact xs_push h5' (nm_r (nI_1 _) h)
  · rw [if_neg k5, hw k5] at h
    refine br_f (by rw [eJ, g4]; exact fun y => k5 (la_im (b := 5) y (by omega) (by omega))) (xs_push h5' (nm_r (nI_1 _) h))
theorem xs_inv0 (hst : stp < 2410256) (hz : t.2.2 = 0) (hc : cap ≤ 256) (hq : q < rt) (hr : rt ≤ 384) (hV : vl_R nv kd ct a_valueKind a_amount a_parts a_fieldValues b_vKind b_vNum b_vCnt b_vStr b_vItem b_vKey b_vVal) (r1 : 1 ≤ root) (r2 : root ≤ nv) (hS : rn_s PS kd root a_frameValue a_frameList a_frameNext a_frameBody b_fv b_cKind b_cSlot b_cTok b_cVal b_cIdx es fc fn cn) (hm : rn_m M TP ST nv es sl hs) (h5 : fc ≤ 5) (hK : a_cellKind q = nI 7) (hG : a_sectionEnd q = nI e) {j : Nat} (hj : j < nv) (hL : lk_v root kd ct a_parts a_fieldValues es (a_cellName q) = nI (j + 1)) (ht : tr_P kd ct (j + 1)) (h : wX_render_30 post n (nI (stp + 1)) f_openMarkLength f_closeMarkLength f_openCount f_compileFrom f_compileTo (nI nv) (nI cap) (nI (t).2.1) (nI fc) f_valueTextLength (nI e) (nI rt) f_returnAt 0 ((t).2.2) a_text a_cellKind a_cellName a_tagEnd a_sectionEnd a_textLength a_slotStatus a_slotError a_openMark a_closeMark a_openTags a_valueKind a_amount a_parts a_fieldValues ((t).1) a_frameValue a_frameList a_frameNext a_frameBody a_valueText) : wX_render_30 post (n + 1) (nI stp) f_openMarkLength f_closeMarkLength f_openCount f_compileFrom f_compileTo (nI nv) (nI cap) (nI (t).2.1) (nI fc) f_valueTextLength (nI q) (nI rt) f_returnAt 0 ((t).2.2) a_text a_cellKind a_cellName a_tagEnd a_sectionEnd a_textLength a_slotStatus a_slotError a_openMark a_closeMark a_openTags a_valueKind a_amount a_parts a_fieldValues ((t).1) a_frameValue a_frameList a_frameNext a_frameBody a_valueText := by
  exact br_f (nI_ge (b := 2410256) hst (by decide)) (br_t rfl (br_t hz (br_t (nI_lt hq (by omega)) ⟨vp_in_nI (by omega) (by omega), nm_r (e' := nI 7) (by rw [nI_clamp (by omega)]; exact hK) (br_f (by decide) (br_f (by decide) (br_f (by decide) (br_f (by decide) (br_f (by decide) (br_f (by decide) (br_f (by decide) (br_f (by decide) (br_f (by decide) (br_t rfl (⟨vp_in_nI (by omega) (by omega), by rw [cq hq hr]; exact xk_v hV r1 r2 hS hm h5 (by rw [hL]; exact xk_f hV hj (fun _ => br_t rfl ⟨vp_in_nI (by omega) (by omega), nm_r (e' := nI e) hG (nm_r (nI_1 _) h)⟩) (fun y => absurd ht y))⟩)))))))))))⟩)))
theorem xs_inv1 (hst : stp < 2410256) (hz : t.2.2 = 0) (hc : cap ≤ 256) (hq : q < rt) (hr : rt ≤ 384) (hV : vl_R nv kd ct a_valueKind a_amount a_parts a_fieldValues b_vKind b_vNum b_vCnt b_vStr b_vItem b_vKey b_vVal) (r1 : 1 ≤ root) (r2 : root ≤ nv) (hS : rn_s PS kd root a_frameValue a_frameList a_frameNext a_frameBody b_fv b_cKind b_cSlot b_cTok b_cVal b_cIdx es fc fn cn) (hm : rn_m M TP ST nv es sl hs) (h5 : fc ≤ 5) (h5' : fc < 5) (hK : a_cellKind q = nI 7) (hE : a_tagEnd q = nI e) (hL : lk_v root kd ct a_parts a_fieldValues es (a_cellName q) = 0 ∨ ∃ j, j < nv ∧ lk_v root kd ct a_parts a_fieldValues es (a_cellName q) = nI (j + 1) ∧ ¬ tr_P kd ct (j + 1)) (h : wX_render_30 post n (nI (stp + 1)) f_openMarkLength f_closeMarkLength f_openCount f_compileFrom f_compileTo (nI nv) (nI cap) (nI (t).2.1) (nI (fc + 1)) f_valueTextLength (nI e) (nI rt) f_returnAt 0 ((t).2.2) a_text a_cellKind a_cellName a_tagEnd a_sectionEnd a_textLength a_slotStatus a_slotError a_openMark a_closeMark a_openTags a_valueKind a_amount a_parts a_fieldValues ((t).1) (upd a_frameValue fc (nI (rn_t root es))) (upd a_frameList fc (0)) (upd a_frameNext fc (nI 1)) (upd a_frameBody fc (nI e)) a_valueText) : wX_render_30 post (n + 1) (nI stp) f_openMarkLength f_closeMarkLength f_openCount f_compileFrom f_compileTo (nI nv) (nI cap) (nI (t).2.1) (nI fc) f_valueTextLength (nI q) (nI rt) f_returnAt 0 ((t).2.2) a_text a_cellKind a_cellName a_tagEnd a_sectionEnd a_textLength a_slotStatus a_slotError a_openMark a_closeMark a_openTags a_valueKind a_amount a_parts a_fieldValues ((t).1) a_frameValue a_frameList a_frameNext a_frameBody a_valueText := by
  have eT : lk_v root kd ct a_parts a_fieldValues es 46 = nI (rn_t root es) := by unfold lk_v; rw [if_pos rfl]
  rcases hL with hL | ⟨j, hj, hL, ht⟩
  · exact br_f (nI_ge (b := 2410256) hst (by decide)) (br_t rfl (br_t hz (br_t (nI_lt hq (by omega)) ⟨vp_in_nI (by omega) (by omega), nm_r (e' := nI 7) (by rw [nI_clamp (by omega)]; exact hK) (br_f (by decide) (br_f (by decide) (br_f (by decide) (br_f (by decide) (br_f (by decide) (br_f (by decide) (br_f (by decide) (br_f (by decide) (br_f (by decide) (br_t rfl (⟨vp_in_nI (by omega) (by omega), by rw [cq hq hr]; exact xk_v hV r1 r2 hS hm h5 (by rw [hL]; exact xk_f0 (br_f (by decide) ⟨vp_in_nI (by omega) (by omega), nm_r (e' := nI e) hE (xk_v hV r1 r2 hS hm h5 (by rw [eT]; exact xs_push h5' (nm_r (nI_1 _) h)))⟩))⟩)))))))))))⟩)))
  · exact br_f (nI_ge (b := 2410256) hst (by decide)) (br_t rfl (br_t hz (br_t (nI_lt hq (by omega)) ⟨vp_in_nI (by omega) (by omega), nm_r (e' := nI 7) (by rw [nI_clamp (by omega)]; exact hK) (br_f (by decide) (br_f (by decide) (br_f (by decide) (br_f (by decide) (br_f (by decide) (br_f (by decide) (br_f (by decide) (br_f (by decide) (br_f (by decide) (br_t rfl (⟨vp_in_nI (by omega) (by omega), by rw [cq hq hr]; exact xk_v hV r1 r2 hS hm h5 (by rw [hL]; exact xk_f hV hj (fun y => absurd y ht) (fun _ => br_f (by decide) ⟨vp_in_nI (by omega) (by omega), nm_r (e' := nI e) hE (xk_v hV r1 r2 hS hm h5 (by rw [eT]; exact xs_push h5' (nm_r (nI_1 _) h)))⟩))⟩)))))))))))⟩)))
theorem xs_pop (hst : stp < 2410256) (hz : t.2.2 = 0) (hc : cap ≤ 256) (hq : q < rt) (hr : rt ≤ 384) (h1 : 1 ≤ fc) (h5 : fc ≤ 5) (hnv : nv ≤ 32) (hK : a_cellKind q = nI 8) (hE : a_tagEnd q = nI e) {l x : Nat} (hl : l ≤ 32) (hF : a_frameList (fc - 1) = nI l) (hcase : l = 0 ∨ ∃ y : Nat, y ≤ x ∧ x < 100 ∧ a_frameNext (fc - 1) = nI x ∧ a_amount l = nI y) (h : wX_render_30 post n (nI (stp + 1)) f_openMarkLength f_closeMarkLength f_openCount f_compileFrom f_compileTo (nI nv) (nI cap) (nI (t).2.1) (nI (fc - 1)) f_valueTextLength (nI e) (nI rt) f_returnAt 0 ((t).2.2) a_text a_cellKind a_cellName a_tagEnd a_sectionEnd a_textLength a_slotStatus a_slotError a_openMark a_closeMark a_openTags a_valueKind a_amount a_parts a_fieldValues ((t).1) a_frameValue a_frameList a_frameNext a_frameBody a_valueText) : wX_render_30 post (n + 1) (nI stp) f_openMarkLength f_closeMarkLength f_openCount f_compileFrom f_compileTo (nI nv) (nI cap) (nI (t).2.1) (nI fc) f_valueTextLength (nI q) (nI rt) f_returnAt 0 ((t).2.2) a_text a_cellKind a_cellName a_tagEnd a_sectionEnd a_textLength a_slotStatus a_slotError a_openMark a_closeMark a_openTags a_valueKind a_amount a_parts a_fieldValues ((t).1) a_frameValue a_frameList a_frameNext a_frameBody a_valueText := by
  have e1 : (nI (fc - 1)).toNatClampNeg = fc - 1 := nI_clamp (by omega)
  refine br_f (nI_ge (b := 2410256) hst (by decide)) (br_t rfl (br_t hz (br_t (nI_lt hq (by omega)) ⟨vp_in_nI (by omega) (by omega), nm_r (e' := nI 8) (by rw [nI_clamp (by omega)]; exact hK) (br_f (by decide) (br_f (by decide) (br_f (by decide) (br_f (by decide) (br_f (by decide) (br_f (by decide) (br_f (by decide) (br_f (by decide) (br_f (by decide) (br_f (by decide) (br_t rfl (⟨vp_in_nI (by omega) (by omega), nm_r (e' := nI e) (by rw [nI_clamp (by omega)]; exact hE) (br_f (nI_ne0 (by omega) (by omega)) (nm_r (e' := nI (fc - 1)) (la_s (by omega)) ⟨vp_in_nI (by omega) (by omega), nm_r (e' := nI l) (by rw [e1]; exact hF) ⟨vp_in_nI (by omega) (by omega), nm_e ?_⟩⟩))⟩))))))))))))⟩)))
  rcases hcase with z | ⟨y, y1, y2, y3, y4⟩
  · exact br_t (by rw [z]; rfl) (nm_r (la_s (by omega)) (nm_r (nI_1 _) h))
  · refine pk_eq l 0 (fun z => nm_r (la_s (by omega)) (nm_r (nI_1 _) h)) (fun z => ⟨vp_in_nI (by omega) (by omega), br_f ?_ (nm_r (la_s (by omega)) (nm_r (nI_1 _) h))⟩)
    rw [e1, y3, nI_clamp (by omega), y4]
    exact nI_nlt (by omega) (by omega)
theorem xs_next (hst : stp < 2410256) (hz : t.2.2 = 0) (hc : cap ≤ 256) (hq : q < rt) (hr : rt ≤ 384) (h1 : 1 ≤ fc) (h5 : fc ≤ 5) (hK : a_cellKind q = nI 8) (hE : a_tagEnd q = nI e) {l x y w b : Nat} (hl0 : 1 ≤ l) (hl : l ≤ 32) (hx : x < y) (hy : y ≤ 8) (hF : a_frameList (fc - 1) = nI l) (hN : a_frameNext (fc - 1) = nI x) (hA : a_amount l = nI y) (hW : a_parts (l * 8 + x) = nI w) (hB : a_frameBody (fc - 1) = nI b) (h : wX_render_30 post n (nI (stp + 1)) f_openMarkLength f_closeMarkLength f_openCount f_compileFrom f_compileTo (nI nv) (nI cap) (nI (t).2.1) (nI fc) f_valueTextLength (nI b) (nI rt) f_returnAt 0 ((t).2.2) a_text a_cellKind a_cellName a_tagEnd a_sectionEnd a_textLength a_slotStatus a_slotError a_openMark a_closeMark a_openTags a_valueKind a_amount a_parts a_fieldValues ((t).1) (upd a_frameValue (fc - 1) (nI w)) a_frameList (upd a_frameNext (fc - 1) (nI (x + 1))) a_frameBody a_valueText) : wX_render_30 post (n + 1) (nI stp) f_openMarkLength f_closeMarkLength f_openCount f_compileFrom f_compileTo (nI nv) (nI cap) (nI (t).2.1) (nI fc) f_valueTextLength (nI q) (nI rt) f_returnAt 0 ((t).2.2) a_text a_cellKind a_cellName a_tagEnd a_sectionEnd a_textLength a_slotStatus a_slotError a_openMark a_closeMark a_openTags a_valueKind a_amount a_parts a_fieldValues ((t).1) a_frameValue a_frameList a_frameNext a_frameBody a_valueText := by
  have e1 : (nI (fc - 1)).toNatClampNeg = fc - 1 := nI_clamp (by omega)
  have i5 : vp_in (nI (fc - 1)) 5 := vp_in_nI (by omega) (by omega)
  refine br_f (nI_ge (b := 2410256) hst (by decide)) (br_t rfl (br_t hz (br_t (nI_lt hq (by omega)) ⟨vp_in_nI (by omega) (by omega), nm_r (e' := nI 8) (by rw [nI_clamp (by omega)]; exact hK) (br_f (by decide) (br_f (by decide) (br_f (by decide) (br_f (by decide) (br_f (by decide) (br_f (by decide) (br_f (by decide) (br_f (by decide) (br_f (by decide) (br_f (by decide) (br_t rfl (⟨vp_in_nI (by omega) (by omega), nm_r (e' := nI e) (by rw [nI_clamp (by omega)]; exact hE) (br_f (nI_ne0 (by omega) (by omega)) (nm_r (e' := nI (fc - 1)) (la_s (by omega)) ⟨i5, nm_r (e' := nI l) (by rw [e1]; exact hF) ⟨i5, nm_r (e' := nI x) (by rw [e1]; exact hN) (br_f (nI_ne0 (by omega) (by omega)) ⟨vp_in_nI (by omega) (by omega), br_t ?_ ⟨?_, i5, nm_r (e' := upd a_frameValue (fc - 1) (nI w)) ?_ ⟨i5, i5, nm_r (e' := upd a_frameNext (fc - 1) (nI (x + 1))) ?_ ⟨i5, nm_r (e' := nI b) (by rw [e1]; exact hB) (nm_r (nI_1 _) h)⟩⟩⟩⟩)⟩⟩))⟩))))))))))))⟩)))
  · rw [nI_clamp (by omega), hA]; exact nI_lt hx (by omega)
  · rw [la_m8, nI_add]; exact vp_in_nI (by omega) (by omega)
  · rw [e1, la_m8, nI_add, nI_clamp (by omega), hW]
  · rw [e1, hN, nI_1]
theorem xs_inc1 (hst : stp < 2410256) (hz : t.2.2 = 0) (hc : cap ≤ 256) (hq : q < rt) (hr : rt ≤ 384) (hK : a_cellKind q = nI 9) (hE : a_tagEnd q = nI e) {d l : Nat} (hd : d < 4) (hN : a_cellName q - 48 = nI d) (hS0 : a_slotStatus d = 0) (hl : a_textLength d = nI l) (h : wX_render_30 post n (nI (stp + 1)) f_openMarkLength f_closeMarkLength f_openCount f_compileFrom f_compileTo (nI nv) (nI cap) (nI (t).2.1) (nI fc) f_valueTextLength (nI (d * 96)) (nI (d * 96 + l)) (nI e) 0 ((t).2.2) a_text a_cellKind a_cellName a_tagEnd a_sectionEnd a_textLength a_slotStatus a_slotError a_openMark a_closeMark a_openTags a_valueKind a_amount a_parts a_fieldValues ((t).1) a_frameValue a_frameList a_frameNext a_frameBody a_valueText) : wX_render_30 post (n + 1) (nI stp) f_openMarkLength f_closeMarkLength f_openCount f_compileFrom f_compileTo (nI nv) (nI cap) (nI (t).2.1) (nI fc) f_valueTextLength (nI q) (nI rt) f_returnAt 0 ((t).2.2) a_text a_cellKind a_cellName a_tagEnd a_sectionEnd a_textLength a_slotStatus a_slotError a_openMark a_closeMark a_openTags a_valueKind a_amount a_parts a_fieldValues ((t).1) a_frameValue a_frameList a_frameNext a_frameBody a_valueText := by
  have eD : (nI d).toNatClampNeg = d := nI_clamp (by omega)
  refine br_f (nI_ge (b := 2410256) hst (by decide)) (br_t rfl (br_t hz (br_t (nI_lt hq (by omega)) ⟨vp_in_nI (by omega) (by omega), nm_r (e' := nI 9) (by rw [nI_clamp (by omega)]; exact hK) (br_f (by decide) (br_f (by decide) (br_f (by decide) (br_f (by decide) (br_f (by decide) (br_f (by decide) (br_f (by decide) (br_f (by decide) (br_f (by decide) (br_f (by decide) (br_f (by decide) (br_t rfl (⟨vp_in_nI (by omega) (by omega), nm_r (e' := nI d) (by rw [cq hq hr]; exact hN) ?_⟩)))))))))))))⟩)))
  unfold wpX_status
  refine xl_slot hd (br_f (by decide) ⟨vp_in_nI hd (by omega), ?_⟩)
  exact br_t (by rw [eD]; exact hS0) ⟨vp_in_nI (by omega) (by omega), nm_r (e' := nI e) (by rw [nI_clamp (by omega)]; exact hE) (nm_r (la_m96 d) (xl_tend hd hl (nm_r (nI_1 _) h)))⟩
theorem xs_inc0 (hst : stp < 2410256) (hz : t.2.2 = 0) (hc : cap ≤ 256) (hq : q < rt) (hr : rt ≤ 384) (hK : a_cellKind q = nI 9) (hE : a_tagEnd q = nI e) {d : Nat} (hd : d < 4) (hN : a_cellName q - 48 = nI d) (hS0 : ¬ a_slotStatus d = 0) (h : wX_render_30 post n (nI (stp + 1)) f_openMarkLength f_closeMarkLength f_openCount f_compileFrom f_compileTo (nI nv) (nI cap) (nI (t).2.1) (nI fc) f_valueTextLength (nI e) (nI rt) f_returnAt 0 ((t).2.2) a_text a_cellKind a_cellName a_tagEnd a_sectionEnd a_textLength a_slotStatus a_slotError a_openMark a_closeMark a_openTags a_valueKind a_amount a_parts a_fieldValues ((t).1) a_frameValue a_frameList a_frameNext a_frameBody a_valueText) : wX_render_30 post (n + 1) (nI stp) f_openMarkLength f_closeMarkLength f_openCount f_compileFrom f_compileTo (nI nv) (nI cap) (nI (t).2.1) (nI fc) f_valueTextLength (nI q) (nI rt) f_returnAt 0 ((t).2.2) a_text a_cellKind a_cellName a_tagEnd a_sectionEnd a_textLength a_slotStatus a_slotError a_openMark a_closeMark a_openTags a_valueKind a_amount a_parts a_fieldValues ((t).1) a_frameValue a_frameList a_frameNext a_frameBody a_valueText := by
  have eD : (nI d).toNatClampNeg = d := nI_clamp (by omega)
  refine br_f (nI_ge (b := 2410256) hst (by decide)) (br_t rfl (br_t hz (br_t (nI_lt hq (by omega)) ⟨vp_in_nI (by omega) (by omega), nm_r (e' := nI 9) (by rw [nI_clamp (by omega)]; exact hK) (br_f (by decide) (br_f (by decide) (br_f (by decide) (br_f (by decide) (br_f (by decide) (br_f (by decide) (br_f (by decide) (br_f (by decide) (br_f (by decide) (br_f (by decide) (br_f (by decide) (br_t rfl (⟨vp_in_nI (by omega) (by omega), nm_r (e' := nI d) (by rw [cq hq hr]; exact hN) ?_⟩)))))))))))))⟩)))
  unfold wpX_status
  refine xl_slot hd (br_f (by decide) ⟨vp_in_nI hd (by omega), ?_⟩)
  exact br_f (by rw [eD]; exact hS0) ⟨vp_in_nI (by omega) (by omega), nm_r (e' := nI e) (by rw [nI_clamp (by omega)]; exact hE) (nm_r (nI_1 _) h)⟩
theorem xs_ret (hst : stp < 2410256) (hz : t.2.2 = 0) (hq : rt ≤ q) (hr : q ≤ 384) {b l : Nat} (hb : b ≤ 384) (hl : a_textLength 0 = nI l) (h : wX_render_30 post n (nI (stp + 1)) f_openMarkLength f_closeMarkLength f_openCount f_compileFrom f_compileTo (nI nv) (nI cap) (nI (t).2.1) (nI fc) f_valueTextLength (nI b) (nI (0 * 96 + l)) (-1) 0 ((t).2.2) a_text a_cellKind a_cellName a_tagEnd a_sectionEnd a_textLength a_slotStatus a_slotError a_openMark a_closeMark a_openTags a_valueKind a_amount a_parts a_fieldValues ((t).1) a_frameValue a_frameList a_frameNext a_frameBody a_valueText) : wX_render_30 post (n + 1) (nI stp) f_openMarkLength f_closeMarkLength f_openCount f_compileFrom f_compileTo (nI nv) (nI cap) (nI (t).2.1) (nI fc) f_valueTextLength (nI q) (nI rt) (nI b) 0 ((t).2.2) a_text a_cellKind a_cellName a_tagEnd a_sectionEnd a_textLength a_slotStatus a_slotError a_openMark a_closeMark a_openTags a_valueKind a_amount a_parts a_fieldValues ((t).1) a_frameValue a_frameList a_frameNext a_frameBody a_valueText := by
  refine br_f (nI_ge (b := 2410256) hst (by decide)) (br_t rfl (br_t hz (br_f (nI_nlt hq (by omega)) (br_f (la_n1 (by omega)) ?_))))
  exact xl_tend (s := 0) (by omega) hl (nm_r (nI_1 _) h)
theorem xs_fin (hst : stp + 1 < 2410256) (hz : t.2.2 = 0) (hq : rt ≤ q) (hr : q ≤ 384) (h : post 0 (f_openMarkLength, f_closeMarkLength, f_openCount, f_compileFrom, f_compileTo, nI nv, nI cap, nI (t).2.1, nI fc, f_valueTextLength, nI q, nI rt, -1, 1, (t).2.2, a_text, a_cellKind, a_cellName, a_tagEnd, a_sectionEnd, a_textLength, a_slotStatus, a_slotError, a_openMark, a_closeMark, a_openTags, a_valueKind, a_amount, a_parts, a_fieldValues, (t).1, a_frameValue, a_frameList, a_frameNext, a_frameBody, a_valueText)) : wX_render_30 post (n + 2) (nI stp) f_openMarkLength f_closeMarkLength f_openCount f_compileFrom f_compileTo (nI nv) (nI cap) (nI (t).2.1) (nI fc) f_valueTextLength (nI q) (nI rt) (-1) 0 ((t).2.2) a_text a_cellKind a_cellName a_tagEnd a_sectionEnd a_textLength a_slotStatus a_slotError a_openMark a_closeMark a_openTags a_valueKind a_amount a_parts a_fieldValues ((t).1) a_frameValue a_frameList a_frameNext a_frameBody a_valueText := by
  have hst' : stp < 2410256 := by omega
  have f : wX_render_30 post (n + 1) (nI (stp + 1)) f_openMarkLength f_closeMarkLength f_openCount f_compileFrom f_compileTo (nI nv) (nI cap) (nI (t).2.1) (nI fc) f_valueTextLength (nI q) (nI rt) (-1) 1 ((t).2.2) a_text a_cellKind a_cellName a_tagEnd a_sectionEnd a_textLength a_slotStatus a_slotError a_openMark a_closeMark a_openTags a_valueKind a_amount a_parts a_fieldValues ((t).1) a_frameValue a_frameList a_frameNext a_frameBody a_valueText := br_f (nI_ge (b := 2410256) hst (by decide)) (br_f (by decide) (br_t hz h))
  exact br_f (nI_ge (b := 2410256) hst' (by decide)) (br_t rfl (br_t hz (br_f (nI_nlt hq (by omega)) (br_t rfl (nm_r (nI_1 _) f)))))
theorem xs_ovf (hz : ¬ t.2.2 = 0) (h : post (-9) (f_openMarkLength, f_closeMarkLength, f_openCount, f_compileFrom, f_compileTo, nI nv, nI cap, nI (t).2.1, nI fc, f_valueTextLength, nI q, nI rt, f_returnAt, 0, (t).2.2, a_text, a_cellKind, a_cellName, a_tagEnd, a_sectionEnd, a_textLength, a_slotStatus, a_slotError, a_openMark, a_closeMark, a_openTags, a_valueKind, a_amount, a_parts, a_fieldValues, (t).1, a_frameValue, a_frameList, a_frameNext, a_frameBody, a_valueText)) : wX_render_30 post (n + 1) (nI stp) f_openMarkLength f_closeMarkLength f_openCount f_compileFrom f_compileTo (nI nv) (nI cap) (nI (t).2.1) (nI fc) f_valueTextLength (nI q) (nI rt) f_returnAt 0 ((t).2.2) a_text a_cellKind a_cellName a_tagEnd a_sectionEnd a_textLength a_slotStatus a_slotError a_openMark a_closeMark a_openTags a_valueKind a_amount a_parts a_fieldValues ((t).1) a_frameValue a_frameList a_frameNext a_frameBody a_valueText :=
  br_c (fun _ => br_f hz h) (fun _ => br_t rfl (br_f hz (br_f hz h)))
end LLXS
end
section
section LLYS2
variable {f_openMarkLength f_closeMarkLength f_openCount f_compileFrom f_compileTo f_valueCount f_outCap f_outCount f_frameCount f_valueTextLength f_renderAt f_renderTo f_returnAt f_finished f_overflowed : Int32} {a_text a_cellKind a_cellName a_tagEnd a_sectionEnd a_textLength a_slotStatus a_slotError a_openMark a_closeMark a_openTags a_valueKind a_amount a_parts a_fieldValues a_out a_frameValue a_frameList a_frameNext a_frameBody a_valueText : Nat → Int32} {g_ol g_cl g_newOl g_newCl g_tagName g_parseErr g_openCount g_nVals g_outLen g_outCap g_fn g_cn : Int32} {b_text b_len b_stat b_errPos b_removed b_tType b_tA b_tB b_tName b_tMatch b_tCount b_oc b_cc b_newO b_newC b_openName b_openTok b_vKind b_vNum b_vCnt b_vStr b_vItem b_vKey b_vVal b_out b_fv b_cKind b_cSlot b_cTok b_cVal b_cIdx b_dig : Nat → Int32} {cap nv root fc fn cn s tk m stp n sl : Nat} {t : (Nat → Int32) × Nat × Int32} {kd ct M : Nat → Nat} {PS TP : Nat → Nat → Nat} {ST : Nat → Nat → List Nat} {es : List (Nat × Nat × Nat × Nat × Nat × Nat)} {hl : List Nat} {post : Int32 → SY → Prop}
theorem ys_o2 (hst : stp < 4194304) (hs : s < 4) (hm : m ≤ 100) (htk : tk < m) (hC : b_tCount s = nI m) (hK : b_tType (s * 100 + tk) = nI 2) (h : wY_render_85 post n (nI s) (nI (tk + 1)) (nI (stp + 1)) g_ol g_cl g_newOl g_newCl g_tagName g_parseErr g_openCount (nI nv) (nI (t).2.1) (nI cap) (nI fn) (nI cn) b_text b_len b_stat b_errPos b_removed b_tType b_tA b_tB b_tName b_tMatch b_tCount b_oc b_cc b_newO b_newC b_openName b_openTok b_vKind b_vNum b_vCnt b_vStr b_vItem b_vKey b_vVal ((t).1) b_fv b_cKind b_cSlot b_cTok b_cVal b_cIdx b_dig) : wY_render_85 post (n + 1) (nI s) (nI tk) (nI stp) g_ol g_cl g_newOl g_newCl g_tagName g_parseErr g_openCount (nI nv) (nI (t).2.1) (nI cap) (nI fn) (nI cn) b_text b_len b_stat b_errPos b_removed b_tType b_tA b_tB b_tName b_tMatch b_tCount b_oc b_cc b_newO b_newC b_openName b_openTok b_vKind b_vNum b_vCnt b_vStr b_vItem b_vKey b_vVal ((t).1) b_fv b_cKind b_cSlot b_cTok b_cVal b_cIdx b_dig :=
  br_f (nI_ge (b := 4194304) hst (by decide)) ⟨vp_in_nI hs (by omega), br_t (by rw [nI_clamp (by omega), hC]; exact nI_lt htk (by omega)) (nm_r (e' := nI (s * 100 + tk)) (by rw [la_m100, nI_add]) ⟨vp_in_nI (by omega) (by omega), nm_r (e' := nI 2) (by rw [nI_clamp (by omega)]; exact hK) (br_f (by decide) (br_f (by decide) (br_f (by decide) (br_f (by decide) (br_f (by decide) (br_f (by decide) (br_f (by decide) (nm_r (nI_1 _) (nm_r (nI_1 _) h)))))))))⟩)⟩
theorem ys_o3 (hst : stp < 4194304) (hs : s < 4) (hm : m ≤ 100) (htk : tk < m) (hC : b_tCount s = nI m) (hK : b_tType (s * 100 + tk) = nI 3) (h : wY_render_85 post n (nI s) (nI (tk + 1)) (nI (stp + 1)) g_ol g_cl g_newOl g_newCl g_tagName g_parseErr g_openCount (nI nv) (nI (t).2.1) (nI cap) (nI fn) (nI cn) b_text b_len b_stat b_errPos b_removed b_tType b_tA b_tB b_tName b_tMatch b_tCount b_oc b_cc b_newO b_newC b_openName b_openTok b_vKind b_vNum b_vCnt b_vStr b_vItem b_vKey b_vVal ((t).1) b_fv b_cKind b_cSlot b_cTok b_cVal b_cIdx b_dig) : wY_render_85 post (n + 1) (nI s) (nI tk) (nI stp) g_ol g_cl g_newOl g_newCl g_tagName g_parseErr g_openCount (nI nv) (nI (t).2.1) (nI cap) (nI fn) (nI cn) b_text b_len b_stat b_errPos b_removed b_tType b_tA b_tB b_tName b_tMatch b_tCount b_oc b_cc b_newO b_newC b_openName b_openTok b_vKind b_vNum b_vCnt b_vStr b_vItem b_vKey b_vVal ((t).1) b_fv b_cKind b_cSlot b_cTok b_cVal b_cIdx b_dig :=
  br_f (nI_ge (b := 4194304) hst (by decide)) ⟨vp_in_nI hs (by omega), br_t (by rw [nI_clamp (by omega), hC]; exact nI_lt htk (by omega)) (nm_r (e' := nI (s * 100 + tk)) (by rw [la_m100, nI_add]) ⟨vp_in_nI (by omega) (by omega), nm_r (e' := nI 3) (by rw [nI_clamp (by omega)]; exact hK) (br_f (by decide) (br_f (by decide) (br_f (by decide) (br_f (by decide) (br_f (by decide) (br_f (by decide) (br_f (by decide) (nm_r (nI_1 _) (nm_r (nI_1 _) h)))))))))⟩)⟩
theorem ys_v0e (hV : vl_R nv kd ct a_valueKind a_amount a_parts a_fieldValues b_vKind b_vNum b_vCnt b_vStr b_vItem b_vKey b_vVal) (r1 : 1 ≤ root) (r2 : root ≤ nv) (hS : rn_s PS kd root a_frameValue a_frameList a_frameNext a_frameBody b_fv b_cKind b_cSlot b_cTok b_cVal b_cIdx es fc fn cn) (hmm : rn_m M TP ST nv es sl hl) (h8 : fn ≤ 7) (hcn : cn ≤ 7) {c : Int32} (hN : b_tName (s * 100 + tk) = c) (hL : lk_v root kd ct a_parts a_fieldValues es c = 0) (hs : s < 4) (hm : m ≤ 100) (htk : tk < m) (hC : b_tCount s = nI m) (hK : b_tType (s * 100 + tk) = nI 4) : ∀ (post : Int32 → SY → Prop) (n stp : Nat), stp < 4194304 → wY_render_85 post n (nI s) (nI (tk + 1)) (nI (stp + 1)) g_ol g_cl g_newOl g_newCl g_tagName g_parseErr g_openCount (nI nv) (nI (t).2.1) (nI cap) (nI fn) (nI cn) b_text b_len b_stat b_errPos b_removed b_tType b_tA b_tB b_tName b_tMatch b_tCount b_oc b_cc b_newO b_newC b_openName b_openTok b_vKind b_vNum b_vCnt b_vStr b_vItem b_vKey b_vVal ((t).1) b_fv b_cKind b_cSlot b_cTok b_cVal b_cIdx b_dig → wY_render_85 post (n + 1) (nI s) (nI tk) (nI stp) g_ol g_cl g_newOl g_newCl g_tagName g_parseErr g_openCount (nI nv) (nI (t).2.1) (nI cap) (nI fn) (nI cn) b_text b_len b_stat b_errPos b_removed b_tType b_tA b_tB b_tName b_tMatch b_tCount b_oc b_cc b_newO b_newC b_openName b_openTok b_vKind b_vNum b_vCnt b_vStr b_vItem b_vKey b_vVal ((t).1) b_fv b_cKind b_cSlot b_cTok b_cVal b_cIdx b_dig := by
  intro post n stp hst h
  exact br_f (nI_ge (b := 4194304) hst (by decide)) ⟨vp_in_nI hs (by omega), br_t (by rw [nI_clamp (by omega), hC]; exact nI_lt htk (by omega)) (nm_r (e' := nI (s * 100 + tk)) (by rw [la_m100, nI_add]) ⟨vp_in_nI (by omega) (by omega), nm_r (e' := nI 4) (by rw [nI_clamp (by omega)]; exact hK) (br_f (by decide) (br_t rfl (⟨vp_in_nI (by omega) (by omega), by rw [nI_clamp (by omega), hN]; exact yk_v hV r1 r2 hS hmm (by omega) (by rw [hL]; exact br_t rfl (ye_non (br_f (by decide) (nm_r (nI_1 _) (nm_r (nI_1 _) h)))))⟩)))⟩)⟩
theorem ys_v1e (hV : vl_R nv kd ct a_valueKind a_amount a_parts a_fieldValues b_vKind b_vNum b_vCnt b_vStr b_vItem b_vKey b_vVal) (r1 : 1 ≤ root) (r2 : root ≤ nv) (hS : rn_s PS kd root a_frameValue a_frameList a_frameNext a_frameBody b_fv b_cKind b_cSlot b_cTok b_cVal b_cIdx es fc fn cn) (hmm : rn_m M TP ST nv es sl hl) (h8 : fn ≤ 7) (hcn : cn ≤ 7) {c : Int32} (hN : b_tName (s * 100 + tk) = c) (g : em_g cap t) (hc : cap ≤ 256) (hz : t.2.2 = 0) {j : Nat} (hj : j < nv) (hL : lk_v root kd ct a_parts a_fieldValues es c = nI (j + 1)) (hs : s < 4) (hm : m ≤ 100) (htk : tk < m) (hC : b_tCount s = nI m) (hK : b_tType (s * 100 + tk) = nI 4) : ∃ dig' : Nat → Int32, ∀ (post : Int32 → SY → Prop) (n stp : Nat), stp < 4194304 → ((em_l cap t (tx_l true kd ct a_amount a_parts (j + 1))).2.2 = 0 → wY_render_85 post n (nI s) (nI (tk + 1)) (nI (stp + 1)) g_ol g_cl g_newOl g_newCl g_tagName g_parseErr g_openCount (nI nv) (nI (em_l cap t (tx_l true kd ct a_amount a_parts (j + 1))).2.1) (nI cap) (nI fn) (nI cn) b_text b_len b_stat b_errPos b_removed b_tType b_tA b_tB b_tName b_tMatch b_tCount b_oc b_cc b_newO b_newC b_openName b_openTok b_vKind b_vNum b_vCnt b_vStr b_vItem b_vKey b_vVal ((em_l cap t (tx_l true kd ct a_amount a_parts (j + 1))).1) b_fv b_cKind b_cSlot b_cTok b_cVal b_cIdx dig') → (¬ (em_l cap t (tx_l true kd ct a_amount a_parts (j + 1))).2.2 = 0 → post (-9) (g_ol, g_cl, g_newOl, g_newCl, g_tagName, g_parseErr, g_openCount, nI nv, nI (em_l cap t (tx_l true kd ct a_amount a_parts (j + 1))).2.1, nI cap, nI fn, nI cn, b_text, b_len, b_stat, b_errPos, b_removed, b_tType, b_tA, b_tB, b_tName, b_tMatch, b_tCount, b_oc, b_cc, b_newO, b_newC, b_openName, b_openTok, b_vKind, b_vNum, b_vCnt, b_vStr, b_vItem, b_vKey, b_vVal, (em_l cap t (tx_l true kd ct a_amount a_parts (j + 1))).1, b_fv, b_cKind, b_cSlot, b_cTok, b_cVal, b_cIdx, dig')) → wY_render_85 post (n + 1) (nI s) (nI tk) (nI stp) g_ol g_cl g_newOl g_newCl g_tagName g_parseErr g_openCount (nI nv) (nI (t).2.1) (nI cap) (nI fn) (nI cn) b_text b_len b_stat b_errPos b_removed b_tType b_tA b_tB b_tName b_tMatch b_tCount b_oc b_cc b_newO b_newC b_openName b_openTok b_vKind b_vNum b_vCnt b_vStr b_vItem b_vKey b_vVal ((t).1) b_fv b_cKind b_cSlot b_cTok b_cVal b_cIdx b_dig := by
  obtain ⟨dig', hd⟩ := ye_val (g_ol := g_ol) (g_cl := g_cl) (g_newOl := g_newOl) (g_newCl := g_newCl) (g_tagName := g_tagName) (g_parseErr := g_parseErr) (g_openCount := g_openCount) (g_fn := nI fn) (g_cn := nI cn) (b_text := b_text) (b_len := b_len) (b_stat := b_stat) (b_errPos := b_errPos) (b_removed := b_removed) (b_tType := b_tType) (b_tA := b_tA) (b_tB := b_tB) (b_tName := b_tName) (b_tMatch := b_tMatch) (b_tCount := b_tCount) (b_oc := b_oc) (b_cc := b_cc) (b_newO := b_newO) (b_newC := b_newC) (b_openName := b_openName) (b_openTok := b_openTok) (b_vKind := b_vKind) (b_vNum := b_vNum) (b_vCnt := b_vCnt) (b_vStr := b_vStr) (b_vItem := b_vItem) (b_vKey := b_vKey) (b_vVal := b_vVal) (b_fv := b_fv) (b_cKind := b_cKind) (b_cSlot := b_cSlot) (b_cTok := b_cTok) (b_cVal := b_cVal) (b_cIdx := b_cIdx) (b_dig := b_dig) (x2 := 1) (esc := true) hV hj hc g hz (Or.inr ⟨rfl, rfl⟩)
  refine ⟨dig', fun post n stp hst h1 h0 => ?_⟩
  exact br_f (nI_ge (b := 4194304) hst (by decide)) ⟨vp_in_nI hs (by omega), br_t (by rw [nI_clamp (by omega), hC]; exact nI_lt htk (by omega)) (nm_r (e' := nI (s * 100 + tk)) (by rw [la_m100, nI_add]) ⟨vp_in_nI (by omega) (by omega), nm_r (e' := nI 4) (by rw [nI_clamp (by omega)]; exact hK) (br_f (by decide) (br_t rfl (⟨vp_in_nI (by omega) (by omega), by rw [nI_clamp (by omega), hN]; exact yk_v hV r1 r2 hS hmm (by omega) (by rw [hL]; exact br_t rfl (hd _ (fun z => br_f (by decide) (nm_r (nI_1 _) (nm_r (nI_1 _) (h1 z)))) (fun z => br_t rfl (h0 z))))⟩)))⟩)⟩
theorem ys_v0r (hV : vl_R nv kd ct a_valueKind a_amount a_parts a_fieldValues b_vKind b_vNum b_vCnt b_vStr b_vItem b_vKey b_vVal) (r1 : 1 ≤ root) (r2 : root ≤ nv) (hS : rn_s PS kd root a_frameValue a_frameList a_frameNext a_frameBody b_fv b_cKind b_cSlot b_cTok b_cVal b_cIdx es fc fn cn) (hmm : rn_m M TP ST nv es sl hl) (h8 : fn ≤ 7) (hcn : cn ≤ 7) {c : Int32} (hN : b_tName (s * 100 + tk) = c) (hL : lk_v root kd ct a_parts a_fieldValues es c = 0) (hs : s < 4) (hm : m ≤ 100) (htk : tk < m) (hC : b_tCount s = nI m) (hK : b_tType (s * 100 + tk) = nI 5) : ∀ (post : Int32 → SY → Prop) (n stp : Nat), stp < 4194304 → wY_render_85 post n (nI s) (nI (tk + 1)) (nI (stp + 1)) g_ol g_cl g_newOl g_newCl g_tagName g_parseErr g_openCount (nI nv) (nI (t).2.1) (nI cap) (nI fn) (nI cn) b_text b_len b_stat b_errPos b_removed b_tType b_tA b_tB b_tName b_tMatch b_tCount b_oc b_cc b_newO b_newC b_openName b_openTok b_vKind b_vNum b_vCnt b_vStr b_vItem b_vKey b_vVal ((t).1) b_fv b_cKind b_cSlot b_cTok b_cVal b_cIdx b_dig → wY_render_85 post (n + 1) (nI s) (nI tk) (nI stp) g_ol g_cl g_newOl g_newCl g_tagName g_parseErr g_openCount (nI nv) (nI (t).2.1) (nI cap) (nI fn) (nI cn) b_text b_len b_stat b_errPos b_removed b_tType b_tA b_tB b_tName b_tMatch b_tCount b_oc b_cc b_newO b_newC b_openName b_openTok b_vKind b_vNum b_vCnt b_vStr b_vItem b_vKey b_vVal ((t).1) b_fv b_cKind b_cSlot b_cTok b_cVal b_cIdx b_dig := by
  intro post n stp hst h
  exact br_f (nI_ge (b := 4194304) hst (by decide)) ⟨vp_in_nI hs (by omega), br_t (by rw [nI_clamp (by omega), hC]; exact nI_lt htk (by omega)) (nm_r (e' := nI (s * 100 + tk)) (by rw [la_m100, nI_add]) ⟨vp_in_nI (by omega) (by omega), nm_r (e' := nI 5) (by rw [nI_clamp (by omega)]; exact hK) (br_f (by decide) (br_f (by decide) (br_t rfl (⟨vp_in_nI (by omega) (by omega), by rw [nI_clamp (by omega), hN]; exact yk_v hV r1 r2 hS hmm (by omega) (by rw [hL]; exact br_f (by decide) (ye_non (br_f (by decide) (nm_r (nI_1 _) (nm_r (nI_1 _) h)))))⟩))))⟩)⟩
theorem ys_v1r (hV : vl_R nv kd ct a_valueKind a_amount a_parts a_fieldValues b_vKind b_vNum b_vCnt b_vStr b_vItem b_vKey b_vVal) (r1 : 1 ≤ root) (r2 : root ≤ nv) (hS : rn_s PS kd root a_frameValue a_frameList a_frameNext a_frameBody b_fv b_cKind b_cSlot b_cTok b_cVal b_cIdx es fc fn cn) (hmm : rn_m M TP ST nv es sl hl) (h8 : fn ≤ 7) (hcn : cn ≤ 7) {c : Int32} (hN : b_tName (s * 100 + tk) = c) (g : em_g cap t) (hc : cap ≤ 256) (hz : t.2.2 = 0) {j : Nat} (hj : j < nv) (hL : lk_v root kd ct a_parts a_fieldValues es c = nI (j + 1)) (hs : s < 4) (hm : m ≤ 100) (htk : tk < m) (hC : b_tCount s = nI m) (hK : b_tType (s * 100 + tk) = nI 5) : ∃ dig' : Nat → Int32, ∀ (post : Int32 → SY → Prop) (n stp : Nat), stp < 4194304 → ((em_l cap t (tx_l false kd ct a_amount a_parts (j + 1))).2.2 = 0 → wY_render_85 post n (nI s) (nI (tk + 1)) (nI (stp + 1)) g_ol g_cl g_newOl g_newCl g_tagName g_parseErr g_openCount (nI nv) (nI (em_l cap t (tx_l false kd ct a_amount a_parts (j + 1))).2.1) (nI cap) (nI fn) (nI cn) b_text b_len b_stat b_errPos b_removed b_tType b_tA b_tB b_tName b_tMatch b_tCount b_oc b_cc b_newO b_newC b_openName b_openTok b_vKind b_vNum b_vCnt b_vStr b_vItem b_vKey b_vVal ((em_l cap t (tx_l false kd ct a_amount a_parts (j + 1))).1) b_fv b_cKind b_cSlot b_cTok b_cVal b_cIdx dig') → (¬ (em_l cap t (tx_l false kd ct a_amount a_parts (j + 1))).2.2 = 0 → post (-9) (g_ol, g_cl, g_newOl, g_newCl, g_tagName, g_parseErr, g_openCount, nI nv, nI (em_l cap t (tx_l false kd ct a_amount a_parts (j + 1))).2.1, nI cap, nI fn, nI cn, b_text, b_len, b_stat, b_errPos, b_removed, b_tType, b_tA, b_tB, b_tName, b_tMatch, b_tCount, b_oc, b_cc, b_newO, b_newC, b_openName, b_openTok, b_vKind, b_vNum, b_vCnt, b_vStr, b_vItem, b_vKey, b_vVal, (em_l cap t (tx_l false kd ct a_amount a_parts (j + 1))).1, b_fv, b_cKind, b_cSlot, b_cTok, b_cVal, b_cIdx, dig')) → wY_render_85 post (n + 1) (nI s) (nI tk) (nI stp) g_ol g_cl g_newOl g_newCl g_tagName g_parseErr g_openCount (nI nv) (nI (t).2.1) (nI cap) (nI fn) (nI cn) b_text b_len b_stat b_errPos b_removed b_tType b_tA b_tB b_tName b_tMatch b_tCount b_oc b_cc b_newO b_newC b_openName b_openTok b_vKind b_vNum b_vCnt b_vStr b_vItem b_vKey b_vVal ((t).1) b_fv b_cKind b_cSlot b_cTok b_cVal b_cIdx b_dig := by
  obtain ⟨dig', hd⟩ := ye_val (g_ol := g_ol) (g_cl := g_cl) (g_newOl := g_newOl) (g_newCl := g_newCl) (g_tagName := g_tagName) (g_parseErr := g_parseErr) (g_openCount := g_openCount) (g_fn := nI fn) (g_cn := nI cn) (b_text := b_text) (b_len := b_len) (b_stat := b_stat) (b_errPos := b_errPos) (b_removed := b_removed) (b_tType := b_tType) (b_tA := b_tA) (b_tB := b_tB) (b_tName := b_tName) (b_tMatch := b_tMatch) (b_tCount := b_tCount) (b_oc := b_oc) (b_cc := b_cc) (b_newO := b_newO) (b_newC := b_newC) (b_openName := b_openName) (b_openTok := b_openTok) (b_vKind := b_vKind) (b_vNum := b_vNum) (b_vCnt := b_vCnt) (b_vStr := b_vStr) (b_vItem := b_vItem) (b_vKey := b_vKey) (b_vVal := b_vVal) (b_fv := b_fv) (b_cKind := b_cKind) (b_cSlot := b_cSlot) (b_cTok := b_cTok) (b_cVal := b_cVal) (b_cIdx := b_cIdx) (b_dig := b_dig) (x2 := 0) (esc := false) hV hj hc g hz (Or.inl ⟨rfl, rfl⟩)
  refine ⟨dig', fun post n stp hst h1 h0 => ?_⟩
  exact br_f (nI_ge (b := 4194304) hst (by decide)) ⟨vp_in_nI hs (by omega), br_t (by rw [nI_clamp (by omega), hC]; exact nI_lt htk (by omega)) (nm_r (e' := nI (s * 100 + tk)) (by rw [la_m100, nI_add]) ⟨vp_in_nI (by omega) (by omega), nm_r (e' := nI 5) (by rw [nI_clamp (by omega)]; exact hK) (br_f (by decide) (br_f (by decide) (br_t rfl (⟨vp_in_nI (by omega) (by omega), by rw [nI_clamp (by omega), hN]; exact yk_v hV r1 r2 hS hmm (by omega) (by rw [hL]; exact br_f (by decide) (hd _ (fun z => br_f (by decide) (nm_r (nI_1 _) (nm_r (nI_1 _) (h1 z)))) (fun z => br_t rfl (h0 z))))⟩))))⟩)⟩
theorem ys_sec0 (hst : stp < 4194304) (hs : s < 4) (hm : m ≤ 100) (htk : tk < m) (hC : b_tCount s = nI m) (hV : vl_R nv kd ct a_valueKind a_amount a_parts a_fieldValues b_vKind b_vNum b_vCnt b_vStr b_vItem b_vKey b_vVal) (r1 : 1 ≤ root) (r2 : root ≤ nv) (hS : rn_s PS kd root a_frameValue a_frameList a_frameNext a_frameBody b_fv b_cKind b_cSlot b_cTok b_cVal b_cIdx es fc fn cn) (hmm : rn_m M TP ST nv es sl hl) (h8 : fn ≤ 7) (hcn : cn ≤ 7) {c : Int32} (hN : b_tName (s * 100 + tk) = c) (hK : b_tType (s * 100 + tk) = nI 6) {c' : Nat} (hM : b_tMatch (s * 100 + tk) = nI c') (hL : lk_v root kd ct a_parts a_fieldValues es c = 0 ∨ ∃ j, j < nv ∧ lk_v root kd ct a_parts a_fieldValues es c = nI (j + 1) ∧ ¬ tr_P kd ct (j + 1)) (h : wY_render_85 post n (nI s) (nI (c' + 1)) (nI (stp + 1)) g_ol g_cl g_newOl g_newCl g_tagName g_parseErr g_openCount (nI nv) (nI (t).2.1) (nI cap) (nI fn) (nI cn) b_text b_len b_stat b_errPos b_removed b_tType b_tA b_tB b_tName b_tMatch b_tCount b_oc b_cc b_newO b_newC b_openName b_openTok b_vKind b_vNum b_vCnt b_vStr b_vItem b_vKey b_vVal ((t).1) b_fv b_cKind b_cSlot b_cTok b_cVal b_cIdx b_dig) : wY_render_85 post (n + 1) (nI s) (nI tk) (nI stp) g_ol g_cl g_newOl g_newCl g_tagName g_parseErr g_openCount (nI nv) (nI (t).2.1) (nI cap) (nI fn) (nI cn) b_text b_len b_stat b_errPos b_removed b_tType b_tA b_tB b_tName b_tMatch b_tCount b_oc b_cc b_newO b_newC b_openName b_openTok b_vKind b_vNum b_vCnt b_vStr b_vItem b_vKey b_vVal ((t).1) b_fv b_cKind b_cSlot b_cTok b_cVal b_cIdx b_dig := by
  have fin : ∀ (L x8 : Int32), wY_render_395 post (wY_render_85 post n) (nI s) (nI tk) (nI stp) (nI (s * 100 + tk)) (nI 6) L x8 0 g_ol g_cl g_newOl g_newCl g_tagName g_parseErr g_openCount (nI nv) (nI (t).2.1) (nI cap) (nI fn) (nI cn) b_text b_len b_stat b_errPos b_removed b_tType b_tA b_tB b_tName b_tMatch b_tCount b_oc b_cc b_newO b_newC b_openName b_openTok b_vKind b_vNum b_vCnt b_vStr b_vItem b_vKey b_vVal ((t).1) b_fv b_cKind b_cSlot b_cTok b_cVal b_cIdx b_dig := fun L x8 => br_t rfl ⟨vp_in_nI (by omega) (by omega), nm_r (e' := nI (c' + 1)) (by rw [nI_clamp (by omega), hM, nI_1]) (nm_r (nI_1 _) h)⟩
  refine br_f (nI_ge (b := 4194304) hst (by decide)) ⟨vp_in_nI hs (by omega), br_t (by rw [nI_clamp (by omega), hC]; exact nI_lt htk (by omega)) (nm_r (e' := nI (s * 100 + tk)) (by rw [la_m100, nI_add]) ⟨vp_in_nI (by omega) (by omega), nm_r (e' := nI 6) (by rw [nI_clamp (by omega)]; exact hK) (br_f (by decide) (br_f (by decide) (br_f (by decide) (br_t rfl (⟨vp_in_nI (by omega) (by omega), ?_⟩)))))⟩)⟩
  rw [nI_clamp (by omega), hN]
  refine yk_v hV r1 r2 hS hmm (by omega) ?_
  rcases hL with hL | ⟨j, hj, hL, ht⟩
  · rw [hL]
    exact yl_kout (Or.inl (by decide)) (br_f (by decide) (br_t rfl (yk_t0 (fin _ _))))
  · rw [hL]
    obtain ⟨g1, g2, g3, g4, g5, g6, _⟩ := hV.2 j hj
    refine yl_kin hV.1 hj g5 (pk_eq (kd (j + 1)) 5 (fun k5 => ⟨by rw [nI_pred]; exact vp_in_nI (by have := hV.1; omega) (by omega), br_c (fun _ => br_t rfl (yk_t hV hj (fun y => absurd y ht) (fun _ => fin _ _))) (fun _ => br_t rfl (yk_t hV hj (fun y => absurd y ht) (fun _ => fin _ _)))⟩) (fun k5 => br_t rfl (yk_t hV hj (fun y => absurd y ht) (fun _ => fin _ _))))
theorem ys_sec1 (hst : stp < 4194304) (hs : s < 4) (hm : m ≤ 100) (htk : tk < m) (hC : b_tCount s = nI m) (hV : vl_R nv kd ct a_valueKind a_amount a_parts a_fieldValues b_vKind b_vNum b_vCnt b_vStr b_vItem b_vKey b_vVal) (r1 : 1 ≤ root) (r2 : root ≤ nv) (hS : rn_s PS kd root a_frameValue a_frameList a_frameNext a_frameBody b_fv b_cKind b_cSlot b_cTok b_cVal b_cIdx es fc fn cn) (hmm : rn_m M TP ST nv es sl hl) (h8 : fn ≤ 7) (hcn : cn ≤ 7) {c : Int32} (hN : b_tName (s * 100 + tk) = c) (hK : b_tType (s * 100 + tk) = nI 6) {j w : Nat} (hj : j < nv) (hL : lk_v root kd ct a_parts a_fieldValues es c = nI (j + 1)) (ht : tr_P kd ct (j + 1)) (hw5 : kd (j + 1) = 5 → b_vItem (j * 4) = nI w) (hw : kd (j + 1) ≠ 5 → w = j + 1) (h : wY_render_85 post n (nI s) (nI (tk + 1)) (nI (stp + 1)) g_ol g_cl g_newOl g_newCl g_tagName g_parseErr g_openCount (nI nv) (nI (t).2.1) (nI cap) (nI (fn + 1)) (nI (cn + 1)) b_text b_len b_stat b_errPos b_removed b_tType b_tA b_tB b_tName b_tMatch b_tCount b_oc b_cc b_newO b_newC b_openName b_openTok b_vKind b_vNum b_vCnt b_vStr b_vItem b_vKey b_vVal ((t).1) (upd b_fv fn (nI w)) (upd b_cKind cn (nI 6)) (upd b_cSlot cn (nI s)) (upd b_cTok cn (nI tk)) (upd b_cVal cn (nI (j + 1))) (upd b_cIdx cn (nI 0)) b_dig) : wY_render_85 post (n + 1) (nI s) (nI tk) (nI stp) g_ol g_cl g_newOl g_newCl g_tagName g_parseErr g_openCount (nI nv) (nI (t).2.1) (nI cap) (nI fn) (nI cn) b_text b_len b_stat b_errPos b_removed b_tType b_tA b_tB b_tName b_tMatch b_tCount b_oc b_cc b_newO b_newC b_openName b_openTok b_vKind b_vNum b_vCnt b_vStr b_vItem b_vKey b_vVal ((t).1) b_fv b_cKind b_cSlot b_cTok b_cVal b_cIdx b_dig := by
  have eN : (nI cn).toNatClampNeg = cn := nI_clamp (by omega)
  have eF : (nI fn).toNatClampNeg = fn := nI_clamp (by omega)
  have i8 : vp_in (nI cn) 8 := vp_in_nI (by omega) (by omega)
  have f8 : vp_in (nI fn) 8 := vp_in_nI (by omega) (by omega)
  obtain ⟨g1, g2, g3, g4, g5, g6, g7, g8', g9, g10, _⟩ := hV.2 j hj
  have hnv := hV.1
  have t531 : ∀ z0 : Int32, z0 = nI w → wY_render_531 post (wY_render_85 post n) (nI s) (nI tk) (nI stp) z0 (nI fn) g_ol g_cl g_newOl g_newCl g_tagName g_parseErr g_openCount (nI nv) (nI (t).2.1) (nI cap) (nI fn) (nI (cn + 1)) b_text b_len b_stat b_errPos b_removed b_tType b_tA b_tB b_tName b_tMatch b_tCount b_oc b_cc b_newO b_newC b_openName b_openTok b_vKind b_vNum b_vCnt b_vStr b_vItem b_vKey b_vVal ((t).1) b_fv (upd b_cKind cn (nI 6)) (upd b_cSlot cn (nI s)) (upd b_cTok cn (nI tk)) (upd b_cVal cn (nI (j + 1))) (upd b_cIdx cn (nI 0)) b_dig := fun z0 hz0 => by
    subst hz0
    exact ⟨f8, nm_r (by rw [eF]) (nm_r (nI_1 _) (nm_r (nI_1 _) (nm_r (nI_1 _) h)))⟩
  refine br_f (nI_ge (b := 4194304) hst (by decide)) ⟨vp_in_nI hs (by omega), br_t (by rw [nI_clamp (by omega), hC]; exact nI_lt htk (by omega)) (nm_r (e' := nI (s * 100 + tk)) (by rw [la_m100, nI_add]) ⟨vp_in_nI (by omega) (by omega), nm_r (e' := nI 6) (by rw [nI_clamp (by omega)]; exact hK) (br_f (by decide) (br_f (by decide) (br_f (by decide) (br_t rfl (⟨vp_in_nI (by omega) (by omega), ?_⟩)))))⟩)⟩
  rw [nI_clamp (by omega), hN]
  refine yk_v hV r1 r2 hS hmm (by omega) ?_
  rw [hL]
  by_cases k5 : kd (j + 1) = 5
  · have nz := ht.2 k5
    have c4 := g10 (by omega)
    refine yl_kin hnv hj g5 (br_t (by rw [k5]; rfl) ⟨by rw [nI_pred]; exact vp_in_nI (by omega) (by omega), br_f (by rw [nI_pred, nI_clamp (by omega), g6]; exact nI_nle (by omega) (by omega)) (br_t rfl (yk_t hV hj (fun _ => ?_) (fun y => absurd ht y)))⟩)
    exact br_f (by decide) (br_f (nI_ge (b := 8) (by omega) (by decide)) (br_t (nI_lt (b := 8) (by omega) (by decide)) ⟨i8, nm_r (e' := upd b_cKind cn (nI 6)) (by rw [eN]) ⟨i8, nm_r (by rw [eN]) ⟨i8, nm_r (by rw [eN]) ⟨i8, nm_r (by rw [eN]) ⟨i8, nm_r (e' := upd b_cIdx cn (nI 0)) (by rw [eN]; rfl) (nm_r (nI_1 _) (br_t rfl (br_f (by decide) ⟨by rw [nI_pred, la_m4]; exact vp_in_nI (by omega) (by omega), t531 _ (by rw [nI_pred, la_m4, nI_clamp (by omega)]; exact hw5 k5)⟩)))⟩⟩⟩⟩⟩))
  · refine yl_kin hnv hj g5 (br_f (fun y => k5 (la_im (b := 5) y (by omega) (by omega))) (br_t rfl (yk_t hV hj (fun _ => ?_) (fun y => absurd ht y))))
    exact br_f (by decide) (br_f (nI_ge (b := 8) (by omega) (by decide)) (br_t (nI_lt (b := 8) (by omega) (by decide)) ⟨i8, nm_r (e' := upd b_cKind cn (nI 6)) (by rw [eN]) ⟨i8, nm_r (by rw [eN]) ⟨i8, nm_r (by rw [eN]) ⟨i8, nm_r (by rw [eN]) ⟨i8, nm_r (e' := upd b_cIdx cn (nI 0)) (by rw [eN]; rfl) (nm_r (nI_1 _) (br_t rfl (br_t rfl (t531 _ (by rw [hw k5])))))⟩⟩⟩⟩⟩))
theorem ys_inv0 (hst : stp < 4194304) (hs : s < 4) (hm : m ≤ 100) (htk : tk < m) (hC : b_tCount s = nI m) (hV : vl_R nv kd ct a_valueKind a_amount a_parts a_fieldValues b_vKind b_vNum b_vCnt b_vStr b_vItem b_vKey b_vVal) (r1 : 1 ≤ root) (r2 : root ≤ nv) (hS : rn_s PS kd root a_frameValue a_frameList a_frameNext a_frameBody b_fv b_cKind b_cSlot b_cTok b_cVal b_cIdx es fc fn cn) (hmm : rn_m M TP ST nv es sl hl) (h8 : fn ≤ 7) (hcn : cn ≤ 7) {c : Int32} (hN : b_tName (s * 100 + tk) = c) (hK : b_tType (s * 100 + tk) = nI 7) {c' : Nat} (hM : b_tMatch (s * 100 + tk) = nI c') {j : Nat} (hj : j < nv) (hL : lk_v root kd ct a_parts a_fieldValues es c = nI (j + 1)) (ht : tr_P kd ct (j + 1)) (h : wY_render_85 post n (nI s) (nI (c' + 1)) (nI (stp + 1)) g_ol g_cl g_newOl g_newCl g_tagName g_parseErr g_openCount (nI nv) (nI (t).2.1) (nI cap) (nI fn) (nI cn) b_text b_len b_stat b_errPos b_removed b_tType b_tA b_tB b_tName b_tMatch b_tCount b_oc b_cc b_newO b_newC b_openName b_openTok b_vKind b_vNum b_vCnt b_vStr b_vItem b_vKey b_vVal ((t).1) b_fv b_cKind b_cSlot b_cTok b_cVal b_cIdx b_dig) : wY_render_85 post (n + 1) (nI s) (nI tk) (nI stp) g_ol g_cl g_newOl g_newCl g_tagName g_parseErr g_openCount (nI nv) (nI (t).2.1) (nI cap) (nI fn) (nI cn) b_text b_len b_stat b_errPos b_removed b_tType b_tA b_tB b_tName b_tMatch b_tCount b_oc b_cc b_newO b_newC b_openName b_openTok b_vKind b_vNum b_vCnt b_vStr b_vItem b_vKey b_vVal ((t).1) b_fv b_cKind b_cSlot b_cTok b_cVal b_cIdx b_dig := by
  have fin : ∀ (L x8 : Int32), wY_render_395 post (wY_render_85 post n) (nI s) (nI tk) (nI stp) (nI (s * 100 + tk)) (nI 7) L x8 0 g_ol g_cl g_newOl g_newCl g_tagName g_parseErr g_openCount (nI nv) (nI (t).2.1) (nI cap) (nI fn) (nI cn) b_text b_len b_stat b_errPos b_removed b_tType b_tA b_tB b_tName b_tMatch b_tCount b_oc b_cc b_newO b_newC b_openName b_openTok b_vKind b_vNum b_vCnt b_vStr b_vItem b_vKey b_vVal ((t).1) b_fv b_cKind b_cSlot b_cTok b_cVal b_cIdx b_dig := fun L x8 => br_t rfl ⟨vp_in_nI (by omega) (by omega), nm_r (e' := nI (c' + 1)) (by rw [nI_clamp (by omega), hM, nI_1]) (nm_r (nI_1 _) h)⟩
  refine br_f (nI_ge (b := 4194304) hst (by decide)) ⟨vp_in_nI hs (by omega), br_t (by rw [nI_clamp (by omega), hC]; exact nI_lt htk (by omega)) (nm_r (e' := nI (s * 100 + tk)) (by rw [la_m100, nI_add]) ⟨vp_in_nI (by omega) (by omega), nm_r (e' := nI 7) (by rw [nI_clamp (by omega)]; exact hK) (br_f (by decide) (br_f (by decide) (br_f (by decide) (br_f (by decide) (br_t rfl (⟨vp_in_nI (by omega) (by omega), ?_⟩))))))⟩)⟩
  rw [nI_clamp (by omega), hN]
  refine yk_v hV r1 r2 hS hmm (by omega) ?_
  rw [hL]
  obtain ⟨g1, g2, g3, g4, g5, g6, _⟩ := hV.2 j hj
  have tr : ∀ x8 : Int32, wY_render_363 post (wY_render_85 post n) (nI s) (nI tk) (nI stp) (nI (s * 100 + tk)) (nI 7) (nI (j + 1)) x8 g_ol g_cl g_newOl g_newCl g_tagName g_parseErr g_openCount (nI nv) (nI (t).2.1) (nI cap) (nI fn) (nI cn) b_text b_len b_stat b_errPos b_removed b_tType b_tA b_tB b_tName b_tMatch b_tCount b_oc b_cc b_newO b_newC b_openName b_openTok b_vKind b_vNum b_vCnt b_vStr b_vItem b_vKey b_vVal ((t).1) b_fv b_cKind b_cSlot b_cTok b_cVal b_cIdx b_dig := fun x8 => br_f (by decide) (yk_t hV hj (fun _ => br_f (by decide) (fin _ _)) (fun y => absurd ht y))
  refine yl_kin hV.1 hj g5 (pk_eq (kd (j + 1)) 5 (fun k5 => ⟨by rw [nI_pred]; exact vp_in_nI (by have := hV.1; omega) (by omega), br_c (fun _ => tr _) (fun _ => tr _)⟩) (fun k5 => tr _))
theorem ys_inv1 (hs : s < 4) (hm : m ≤ 100) (htk : tk < m) (hC : b_tCount s = nI m) (hV : vl_R nv kd ct a_valueKind a_amount a_parts a_fieldValues b_vKind b_vNum b_vCnt b_vStr b_vItem b_vKey b_vVal) (r1 : 1 ≤ root) (r2 : root ≤ nv) (hS : rn_s PS kd root a_frameValue a_frameList a_frameNext a_frameBody b_fv b_cKind b_cSlot b_cTok b_cVal b_cIdx es fc fn cn) (hmm : rn_m M TP ST nv es sl hl) (h8 : fn ≤ 7) (hcn : cn ≤ 7) {c : Int32} (hN : b_tName (s * 100 + tk) = c) (hK : b_tType (s * 100 + tk) = nI 7) (hL : lk_v root kd ct a_parts a_fieldValues es c = 0 ∨ ∃ j, j < nv ∧ lk_v root kd ct a_parts a_fieldValues es c = nI (j + 1) ∧ ¬ tr_P kd ct (j + 1)) : ∃ L : Int32, ∀ (post : Int32 → SY → Prop) (n stp : Nat), stp < 4194304 → wY_render_85 post n (nI s) (nI (tk + 1)) (nI (stp + 1)) g_ol g_cl g_newOl g_newCl g_tagName g_parseErr g_openCount (nI nv) (nI (t).2.1) (nI cap) (nI fn) (nI (cn + 1)) b_text b_len b_stat b_errPos b_removed b_tType b_tA b_tB b_tName b_tMatch b_tCount b_oc b_cc b_newO b_newC b_openName b_openTok b_vKind b_vNum b_vCnt b_vStr b_vItem b_vKey b_vVal ((t).1) b_fv (upd b_cKind cn (nI 7)) (upd b_cSlot cn (nI s)) (upd b_cTok cn (nI tk)) (upd b_cVal cn L) (upd b_cIdx cn (nI 0)) b_dig → wY_render_85 post (n + 1) (nI s) (nI tk) (nI stp) g_ol g_cl g_newOl g_newCl g_tagName g_parseErr g_openCount (nI nv) (nI (t).2.1) (nI cap) (nI fn) (nI cn) b_text b_len b_stat b_errPos b_removed b_tType b_tA b_tB b_tName b_tMatch b_tCount b_oc b_cc b_newO b_newC b_openName b_openTok b_vKind b_vNum b_vCnt b_vStr b_vItem b_vKey b_vVal ((t).1) b_fv b_cKind b_cSlot b_cTok b_cVal b_cIdx b_dig := by
  have eN : (nI cn).toNatClampNeg = cn := nI_clamp (by omega)
  have eF : (nI fn).toNatClampNeg = fn := nI_clamp (by omega)
  have i8 : vp_in (nI cn) 8 := vp_in_nI (by omega) (by omega)
  have f8 : vp_in (nI fn) 8 := vp_in_nI (by omega) (by omega)
  rcases hL with hL | ⟨j, hj, hL, ht⟩
  · refine ⟨0, fun post n stp hst h => ?_⟩
    refine br_f (nI_ge (b := 4194304) hst (by decide)) ⟨vp_in_nI hs (by omega), br_t (by rw [nI_clamp (by omega), hC]; exact nI_lt htk (by omega)) (nm_r (e' := nI (s * 100 + tk)) (by rw [la_m100, nI_add]) ⟨vp_in_nI (by omega) (by omega), nm_r (e' := nI 7) (by rw [nI_clamp (by omega)]; exact hK) (br_f (by decide) (br_f (by decide) (br_f (by decide) (br_f (by decide) (br_t rfl (⟨vp_in_nI (by omega) (by omega), ?_⟩))))))⟩)⟩
    rw [nI_clamp (by omega), hN]
    refine yk_v hV r1 r2 hS hmm (by omega) ?_
    rw [hL]
    refine yl_kout (Or.inl (by decide)) (br_f (by decide) (br_f (by decide) (yk_t0 (br_t rfl ?_))))
    exact br_f (by decide) (br_f (nI_ge (b := 8) (by omega) (by decide)) (br_t (nI_lt (b := 8) (by omega) (by decide)) ⟨i8, nm_r (e' := upd b_cKind cn (nI 7)) (by rw [eN]) ⟨i8, nm_r (by rw [eN]) ⟨i8, nm_r (by rw [eN]) ⟨i8, nm_r (by rw [eN]) ⟨i8, nm_r (e' := upd b_cIdx cn (nI 0)) (by rw [eN]; rfl) (nm_r (nI_1 _) (br_f (by decide) (nm_r (nI_1 _) (nm_r (nI_1 _) h))))⟩⟩⟩⟩⟩))
  · refine ⟨nI (j + 1), fun post n stp hst h => ?_⟩
    obtain ⟨g1, g2, g3, g4, g5, g6, _⟩ := hV.2 j hj
    have fin : ∀ x8 : Int32, wY_render_395 post (wY_render_85 post n) (nI s) (nI tk) (nI stp) (nI (s * 100 + tk)) (nI 7) (nI (j + 1)) x8 1 g_ol g_cl g_newOl g_newCl g_tagName g_parseErr g_openCount (nI nv) (nI (t).2.1) (nI cap) (nI fn) (nI cn) b_text b_len b_stat b_errPos b_removed b_tType b_tA b_tB b_tName b_tMatch b_tCount b_oc b_cc b_newO b_newC b_openName b_openTok b_vKind b_vNum b_vCnt b_vStr b_vItem b_vKey b_vVal ((t).1) b_fv b_cKind b_cSlot b_cTok b_cVal b_cIdx b_dig := fun x8 => br_f (by decide) (br_f (nI_ge (b := 8) (by omega) (by decide)) (br_t (nI_lt (b := 8) (by omega) (by decide)) ⟨i8, nm_r (e' := upd b_cKind cn (nI 7)) (by rw [eN]) ⟨i8, nm_r (by rw [eN]) ⟨i8, nm_r (by rw [eN]) ⟨i8, nm_r (by rw [eN]) ⟨i8, nm_r (e' := upd b_cIdx cn (nI 0)) (by rw [eN]; rfl) (nm_r (nI_1 _) (br_f (by decide) (nm_r (nI_1 _) (nm_r (nI_1 _) h))))⟩⟩⟩⟩⟩))
    have tr : ∀ x8 : Int32, wY_render_363 post (wY_render_85 post n) (nI s) (nI tk) (nI stp) (nI (s * 100 + tk)) (nI 7) (nI (j + 1)) x8 g_ol g_cl g_newOl g_newCl g_tagName g_parseErr g_openCount (nI nv) (nI (t).2.1) (nI cap) (nI fn) (nI cn) b_text b_len b_stat b_errPos b_removed b_tType b_tA b_tB b_tName b_tMatch b_tCount b_oc b_cc b_newO b_newC b_openName b_openTok b_vKind b_vNum b_vCnt b_vStr b_vItem b_vKey b_vVal ((t).1) b_fv b_cKind b_cSlot b_cTok b_cVal b_cIdx b_dig := fun x8 => br_f (by decide) (yk_t hV hj (fun y => absurd y ht) (fun _ => br_t rfl (fin _)))
    refine br_f (nI_ge (b := 4194304) hst (by decide)) ⟨vp_in_nI hs (by omega), br_t (by rw [nI_clamp (by omega), hC]; exact nI_lt htk (by omega)) (nm_r (e' := nI (s * 100 + tk)) (by rw [la_m100, nI_add]) ⟨vp_in_nI (by omega) (by omega), nm_r (e' := nI 7) (by rw [nI_clamp (by omega)]; exact hK) (br_f (by decide) (br_f (by decide) (br_f (by decide) (br_f (by decide) (br_t rfl (⟨vp_in_nI (by omega) (by omega), ?_⟩))))))⟩)⟩
    rw [nI_clamp (by omega), hN]
    refine yk_v hV r1 r2 hS hmm (by omega) ?_
    rw [hL]
    refine yl_kin hV.1 hj g5 (pk_eq (kd (j + 1)) 5 (fun k5 => ⟨by rw [nI_pred]; exact vp_in_nI (by have := hV.1; omega) (by omega), br_c (fun _ => tr _) (fun _ => tr _)⟩) (fun k5 => tr _))
theorem ys_cl7 (hst : stp < 4194304) (hs : s < 4) (hm : m ≤ 100) (htk : tk < m) (hC : b_tCount s = nI m) (hK : b_tType (s * 100 + tk) = nI 8) (h0 : 1 ≤ cn) (h8 : cn ≤ 8) (hk : b_cKind (cn - 1) = nI 7) (h : wY_render_85 post n (nI s) (nI (tk + 1)) (nI (stp + 1)) g_ol g_cl g_newOl g_newCl g_tagName g_parseErr g_openCount (nI nv) (nI (t).2.1) (nI cap) (nI fn) (nI (cn - 1)) b_text b_len b_stat b_errPos b_removed b_tType b_tA b_tB b_tName b_tMatch b_tCount b_oc b_cc b_newO b_newC b_openName b_openTok b_vKind b_vNum b_vCnt b_vStr b_vItem b_vKey b_vVal ((t).1) b_fv b_cKind b_cSlot b_cTok b_cVal b_cIdx b_dig) : wY_render_85 post (n + 1) (nI s) (nI tk) (nI stp) g_ol g_cl g_newOl g_newCl g_tagName g_parseErr g_openCount (nI nv) (nI (t).2.1) (nI cap) (nI fn) (nI cn) b_text b_len b_stat b_errPos b_removed b_tType b_tA b_tB b_tName b_tMatch b_tCount b_oc b_cc b_newO b_newC b_openName b_openTok b_vKind b_vNum b_vCnt b_vStr b_vItem b_vKey b_vVal ((t).1) b_fv b_cKind b_cSlot b_cTok b_cVal b_cIdx b_dig :=
  br_f (nI_ge (b := 4194304) hst (by decide)) ⟨vp_in_nI hs (by omega), br_t (by rw [nI_clamp (by omega), hC]; exact nI_lt htk (by omega)) (nm_r (e' := nI (s * 100 + tk)) (by rw [la_m100, nI_add]) ⟨vp_in_nI (by omega) (by omega), nm_r (e' := nI 8) (by rw [nI_clamp (by omega)]; exact hK) (br_f (by decide) (br_f (by decide) (br_f (by decide) (br_f (by decide) (br_f (by decide) (br_t rfl (br_f (nI_nle (by omega) (by omega)) ⟨by rw [la_s h0]; exact vp_in_nI (by omega) (by omega), br_f (by rw [la_s h0, nI_clamp (by omega), hk]; decide) (br_f (nI_nle (by omega) (by omega)) (nm_r (la_s h0) (nm_r (nI_1 _) (nm_r (nI_1 _) h))))⟩)))))))⟩)⟩
theorem ys_cl6 (hst : stp < 4194304) (hs : s < 4) (hm : m ≤ 100) (htk : tk < m) (hC : b_tCount s = nI m) (hK : b_tType (s * 100 + tk) = nI 8) (hV : vl_R nv kd ct a_valueKind a_amount a_parts a_fieldValues b_vKind b_vNum b_vCnt b_vStr b_vItem b_vKey b_vVal) (h0 : 1 ≤ cn) (h8 : cn ≤ 8) (f0 : 1 ≤ fn) (f8 : fn ≤ 8) (hk : b_cKind (cn - 1) = nI 6) {j x : Nat} (hj : j < nv) (hx : x < 100) (hcv : b_cVal (cn - 1) = nI (j + 1)) (hci : b_cIdx (cn - 1) = nI x)
    (hp : (kd (j + 1) = 5 → ct (j + 1) ≤ x + 1) → wY_render_85 post n (nI s) (nI (tk + 1)) (nI (stp + 1)) g_ol g_cl g_newOl g_newCl g_tagName g_parseErr g_openCount (nI nv) (nI (t).2.1) (nI cap) (nI (fn - 1)) (nI (cn - 1)) b_text b_len b_stat b_errPos b_removed b_tType b_tA b_tB b_tName b_tMatch b_tCount b_oc b_cc b_newO b_newC b_openName b_openTok b_vKind b_vNum b_vCnt b_vStr b_vItem b_vKey b_vVal ((t).1) b_fv b_cKind b_cSlot b_cTok b_cVal b_cIdx b_dig)
    (hn : kd (j + 1) = 5 → x + 1 < ct (j + 1) → ∃ (w b : Nat), b_vItem (j * 4 + (x + 1)) = nI w ∧ b_cTok (cn - 1) = nI b ∧ wY_render_85 post n (nI s) (nI (b + 1)) (nI (stp + 1)) g_ol g_cl g_newOl g_newCl g_tagName g_parseErr g_openCount (nI nv) (nI (t).2.1) (nI cap) (nI fn) (nI cn) b_text b_len b_stat b_errPos b_removed b_tType b_tA b_tB b_tName b_tMatch b_tCount b_oc b_cc b_newO b_newC b_openName b_openTok b_vKind b_vNum b_vCnt b_vStr b_vItem b_vKey b_vVal ((t).1) (upd b_fv (fn - 1) (nI w)) b_cKind b_cSlot b_cTok b_cVal (upd b_cIdx (cn - 1) (nI (x + 1))) b_dig) : wY_render_85 post (n + 1) (nI s) (nI tk) (nI stp) g_ol g_cl g_newOl g_newCl g_tagName g_parseErr g_openCount (nI nv) (nI (t).2.1) (nI cap) (nI fn) (nI cn) b_text b_len b_stat b_errPos b_removed b_tType b_tA b_tB b_tName b_tMatch b_tCount b_oc b_cc b_newO b_newC b_openName b_openTok b_vKind b_vNum b_vCnt b_vStr b_vItem b_vKey b_vVal ((t).1) b_fv b_cKind b_cSlot b_cTok b_cVal b_cIdx b_dig := by
  obtain ⟨g1, g2, g3, g4, g5, g6, g7, g8', g9, g10, _⟩ := hV.2 j hj
  have hnv := hV.1
  have eN : (nI (cn - 1)).toNatClampNeg = cn - 1 := nI_clamp (by omega)
  have eF : (nI (fn - 1)).toNatClampNeg = fn - 1 := nI_clamp (by omega)
  have i8 : vp_in (nI (cn - 1)) 8 := vp_in_nI (by omega) (by omega)
  have j32 : vp_in (nI (j + 1) - 1) 32 := by rw [nI_pred]; exact vp_in_nI (by omega) (by omega)
  have eV : b_vCnt (nI (j + 1) - 1).toNatClampNeg = nI (ct (j + 1)) := by rw [nI_pred, nI_clamp (by omega), g6]
  have eI : b_cIdx (nI (cn - 1)).toNatClampNeg + 1 = nI (x + 1) := by rw [eN, hci, nI_1]
  have p705 : (kd (j + 1) = 5 → ct (j + 1) ≤ x + 1) → wY_render_705 post (wY_render_85 post n) (nI s) (nI tk) (nI stp) g_ol g_cl g_newOl g_newCl g_tagName g_parseErr g_openCount (nI nv) (nI (t).2.1) (nI cap) (nI (fn - 1)) (nI cn) b_text b_len b_stat b_errPos b_removed b_tType b_tA b_tB b_tName b_tMatch b_tCount b_oc b_cc b_newO b_newC b_openName b_openTok b_vKind b_vNum b_vCnt b_vStr b_vItem b_vKey b_vVal ((t).1) b_fv b_cKind b_cSlot b_cTok b_cVal b_cIdx b_dig := fun z => nm_r (la_s h0) (nm_r (nI_1 _) (nm_r (nI_1 _) (hp z)))
  refine br_f (nI_ge (b := 4194304) hst (by decide)) ⟨vp_in_nI hs (by omega), br_t (by rw [nI_clamp (by omega), hC]; exact nI_lt htk (by omega)) (nm_r (e' := nI (s * 100 + tk)) (by rw [la_m100, nI_add]) ⟨vp_in_nI (by omega) (by omega), nm_r (e' := nI 8) (by rw [nI_clamp (by omega)]; exact hK) (br_f (by decide) (br_f (by decide) (br_f (by decide) (br_f (by decide) (br_f (by decide) (br_t rfl (br_f (nI_nle (by omega) (by omega)) ⟨by rw [la_s h0]; exact vp_in_nI (by omega) (by omega), br_t (by rw [la_s h0, nI_clamp (by omega), hk]; rfl) (nm_r (la_s h0) ⟨i8, nm_r (e' := nI (j + 1)) (by rw [eN]; exact hcv) (br_f (nI_nle (by omega) (by omega)) (nm_r (la_s f0) ?_))⟩)⟩)))))))⟩)⟩
  unfold wY_render_612
  refine yl_kin hnv hj g5 (pk_eq (kd (j + 1)) 5 (fun k5 => ⟨i8, j32, ?_⟩) (fun k5 => p705 (fun y => absurd y k5)))
  by_cases z : ct (j + 1) ≤ x + 1
  · exact br_t (by rw [eV, eI]; exact nI_le z (by omega)) (p705 (fun _ => z))
  · obtain ⟨w, b, w1, w2, w3⟩ := hn k5 (by omega)
    have c4 := g10 (by omega)
    refine br_f (by rw [eV, eI]; exact nI_ge (by omega) (by omega)) ⟨i8, i8, nm_r (e' := upd b_cIdx (cn - 1) (nI (x + 1))) (by rw [eI, eN]) ⟨i8, ?_, vp_in_nI (by omega) (by omega), nm_r (e' := upd b_fv (fn - 1) (nI w)) ?_ (nm_r (e' := nI fn) ?_ ⟨i8, nm_r (e' := nI (b + 1)) (by rw [eN, w2, nI_1]) (nm_r (nI_1 _) w3)⟩)⟩⟩
    · rw [eN, pk_us, nI_pred, la_m4, nI_add]; exact vp_in_nI (by omega) (by omega)
    · rw [eF, eN, pk_us, nI_pred, la_m4, nI_add, nI_clamp (by omega), w1]
    · rw [nI_1]; exact congrArg nI (by omega)
theorem ys_inc1 (hst : stp < 4194304) (hs : s < 4) (hm : m ≤ 100) (htk : tk < m) (hC : b_tCount s = nI m) (hK : b_tType (s * 100 + tk) = nI 9) (hcn : cn ≤ 7) {d : Nat} (hd1 : 1 ≤ d) (hd3 : d ≤ 3) (hN : b_tName (s * 100 + tk) - 48 = nI d) (hS0 : b_stat d = 0) (h : wY_render_85 post n (nI d) (nI 0) (nI (stp + 1)) g_ol g_cl g_newOl g_newCl g_tagName g_parseErr g_openCount (nI nv) (nI (t).2.1) (nI cap) (nI fn) (nI (cn + 1)) b_text b_len b_stat b_errPos b_removed b_tType b_tA b_tB b_tName b_tMatch b_tCount b_oc b_cc b_newO b_newC b_openName b_openTok b_vKind b_vNum b_vCnt b_vStr b_vItem b_vKey b_vVal ((t).1) b_fv (upd b_cKind cn (nI 9)) (upd b_cSlot cn (nI s)) (upd b_cTok cn (nI tk)) b_cVal b_cIdx b_dig) : wY_render_85 post (n + 1) (nI s) (nI tk) (nI stp) g_ol g_cl g_newOl g_newCl g_tagName g_parseErr g_openCount (nI nv) (nI (t).2.1) (nI cap) (nI fn) (nI cn) b_text b_len b_stat b_errPos b_removed b_tType b_tA b_tB b_tName b_tMatch b_tCount b_oc b_cc b_newO b_newC b_openName b_openTok b_vKind b_vNum b_vCnt b_vStr b_vItem b_vKey b_vVal ((t).1) b_fv b_cKind b_cSlot b_cTok b_cVal b_cIdx b_dig := by
  have eN : (nI cn).toNatClampNeg = cn := nI_clamp (by omega)
  have i8 : vp_in (nI cn) 8 := vp_in_nI (by omega) (by omega)
  exact br_f (nI_ge (b := 4194304) hst (by decide)) ⟨vp_in_nI hs (by omega), br_t (by rw [nI_clamp (by omega), hC]; exact nI_lt htk (by omega)) (nm_r (e' := nI (s * 100 + tk)) (by rw [la_m100, nI_add]) ⟨vp_in_nI (by omega) (by omega), nm_r (e' := nI 9) (by rw [nI_clamp (by omega)]; exact hK) (br_f (by decide) (br_f (by decide) (br_f (by decide) (br_f (by decide) (br_f (by decide) (br_f (by decide) (br_t rfl (⟨vp_in_nI (by omega) (by omega), nm_r (e' := nI d) (by rw [nI_clamp (by omega)]; exact hN) (br_f (nI_nlt (b := 1) hd1 (by omega)) (br_f (nI_nlt (a := 3) hd3 (by omega)) ⟨vp_in_nI (by omega) (by omega), br_t (by rw [nI_clamp (by omega)]; exact hS0) (br_f (nI_ge (b := 8) (by omega) (by decide)) ⟨i8, nm_r (e' := upd b_cKind cn (nI 9)) (by rw [eN]; rfl) ⟨i8, nm_r (by rw [eN]) ⟨i8, nm_r (by rw [eN]) (nm_r (nI_1 _) (nm_r (nI_1 _) h))⟩⟩⟩)⟩))⟩))))))))⟩)⟩
theorem ys_inc0 (hst : stp < 4194304) (hs : s < 4) (hm : m ≤ 100) (htk : tk < m) (hC : b_tCount s = nI m) (hK : b_tType (s * 100 + tk) = nI 9) {d : Nat} (hd1 : 1 ≤ d) (hd3 : d ≤ 3) (hN : b_tName (s * 100 + tk) - 48 = nI d) (hS0 : ¬ b_stat d = 0) (h : wY_render_85 post n (nI s) (nI (tk + 1)) (nI (stp + 1)) g_ol g_cl g_newOl g_newCl g_tagName g_parseErr g_openCount (nI nv) (nI (t).2.1) (nI cap) (nI fn) (nI cn) b_text b_len b_stat b_errPos b_removed b_tType b_tA b_tB b_tName b_tMatch b_tCount b_oc b_cc b_newO b_newC b_openName b_openTok b_vKind b_vNum b_vCnt b_vStr b_vItem b_vKey b_vVal ((t).1) b_fv b_cKind b_cSlot b_cTok b_cVal b_cIdx b_dig) : wY_render_85 post (n + 1) (nI s) (nI tk) (nI stp) g_ol g_cl g_newOl g_newCl g_tagName g_parseErr g_openCount (nI nv) (nI (t).2.1) (nI cap) (nI fn) (nI cn) b_text b_len b_stat b_errPos b_removed b_tType b_tA b_tB b_tName b_tMatch b_tCount b_oc b_cc b_newO b_newC b_openName b_openTok b_vKind b_vNum b_vCnt b_vStr b_vItem b_vKey b_vVal ((t).1) b_fv b_cKind b_cSlot b_cTok b_cVal b_cIdx b_dig := by
  exact br_f (nI_ge (b := 4194304) hst (by decide)) ⟨vp_in_nI hs (by omega), br_t (by rw [nI_clamp (by omega), hC]; exact nI_lt htk (by omega)) (nm_r (e' := nI (s * 100 + tk)) (by rw [la_m100, nI_add]) ⟨vp_in_nI (by omega) (by omega), nm_r (e' := nI 9) (by rw [nI_clamp (by omega)]; exact hK) (br_f (by decide) (br_f (by decide) (br_f (by decide) (br_f (by decide) (br_f (by decide) (br_f (by decide) (br_t rfl (⟨vp_in_nI (by omega) (by omega), nm_r (e' := nI d) (by rw [nI_clamp (by omega)]; exact hN) (br_f (nI_nlt (b := 1) hd1 (by omega)) (br_f (nI_nlt (a := 3) hd3 (by omega)) ⟨vp_in_nI (by omega) (by omega), br_f (by rw [nI_clamp (by omega)]; exact hS0) (nm_r (nI_1 _) (nm_r (nI_1 _) h))⟩))⟩))))))))⟩)⟩
theorem ys_ret (hst : stp < 4194304) (hs : s < 4) (hm : m ≤ 100) (hC : b_tCount s = nI m) (h0 : 1 ≤ cn) (h8 : cn ≤ 8) (hk : b_cKind (cn - 1) = nI 9) {b : Nat} (hsl : b_cSlot (cn - 1) = nI 0) (hb : b_cTok (cn - 1) = nI b) (h : wY_render_85 post n (nI 0) (nI (b + 1)) (nI (stp + 1)) g_ol g_cl g_newOl g_newCl g_tagName g_parseErr g_openCount (nI nv) (nI (t).2.1) (nI cap) (nI fn) (nI (cn - 1)) b_text b_len b_stat b_errPos b_removed b_tType b_tA b_tB b_tName b_tMatch b_tCount b_oc b_cc b_newO b_newC b_openName b_openTok b_vKind b_vNum b_vCnt b_vStr b_vItem b_vKey b_vVal ((t).1) b_fv b_cKind b_cSlot b_cTok b_cVal b_cIdx b_dig) : wY_render_85 post (n + 1) (nI s) (nI m) (nI stp) g_ol g_cl g_newOl g_newCl g_tagName g_parseErr g_openCount (nI nv) (nI (t).2.1) (nI cap) (nI fn) (nI cn) b_text b_len b_stat b_errPos b_removed b_tType b_tA b_tB b_tName b_tMatch b_tCount b_oc b_cc b_newO b_newC b_openName b_openTok b_vKind b_vNum b_vCnt b_vStr b_vItem b_vKey b_vVal ((t).1) b_fv b_cKind b_cSlot b_cTok b_cVal b_cIdx b_dig := by
  have eN : (nI (cn - 1)).toNatClampNeg = cn - 1 := nI_clamp (by omega)
  have i8 : vp_in (nI (cn - 1)) 8 := vp_in_nI (by omega) (by omega)
  exact br_f (nI_ge (b := 4194304) hst (by decide)) ⟨vp_in_nI hs (by omega), br_f (by rw [nI_clamp (by omega), hC]; exact nI_nlt (Nat.le_refl _) (by omega)) (br_f (nI_nle (by omega) (by omega)) ⟨by rw [la_s h0]; exact i8, br_t (by rw [la_s h0, eN, hk]; rfl) (nm_r (la_s h0) ⟨i8, nm_r (e' := nI 0) (by rw [eN]; exact hsl) ⟨i8, nm_r (e' := nI (b + 1)) (by rw [eN, hb, nI_1]) (nm_r (nI_1 _) h)⟩⟩)⟩)⟩
theorem ys_fin (hst : stp < 4194304) (hs : s < 4) (hm : m ≤ 100) (hC : b_tCount s = nI m) (h0 : cn = 0) (h : post 0 (g_ol, g_cl, g_newOl, g_newCl, g_tagName, g_parseErr, g_openCount, nI nv, nI (t).2.1, nI cap, nI fn, nI cn, b_text, b_len, b_stat, b_errPos, b_removed, b_tType, b_tA, b_tB, b_tName, b_tMatch, b_tCount, b_oc, b_cc, b_newO, b_newC, b_openName, b_openTok, b_vKind, b_vNum, b_vCnt, b_vStr, b_vItem, b_vKey, b_vVal, (t).1, b_fv, b_cKind, b_cSlot, b_cTok, b_cVal, b_cIdx, b_dig)) : wY_render_85 post (n + 1) (nI s) (nI m) (nI stp) g_ol g_cl g_newOl g_newCl g_tagName g_parseErr g_openCount (nI nv) (nI (t).2.1) (nI cap) (nI fn) (nI cn) b_text b_len b_stat b_errPos b_removed b_tType b_tA b_tB b_tName b_tMatch b_tCount b_oc b_cc b_newO b_newC b_openName b_openTok b_vKind b_vNum b_vCnt b_vStr b_vItem b_vKey b_vVal ((t).1) b_fv b_cKind b_cSlot b_cTok b_cVal b_cIdx b_dig :=
  br_f (nI_ge (b := 4194304) hst (by decide)) ⟨vp_in_nI hs (by omega), br_f (by rw [nI_clamp (by omega), hC]; exact nI_nlt (Nat.le_refl _) (by omega)) (br_t (by rw [h0]; decide) h)⟩
theorem ys_lit (hst : stp < 4194304) (hs : s < 4) (hm : m ≤ 100) (htk : tk < m) (hC : b_tCount s = nI m) (hK : b_tType (s * 100 + tk) = nI 1) {a : Nat} (hA : b_tA (s * 100 + tk) = nI a) (h : ∃ n194, wY_render_194 post (wY_render_85 post n) (nI s) (nI tk) (nI stp) (nI (s * 100 + tk)) n194 (nI a) g_ol g_cl g_newOl g_newCl g_tagName g_parseErr g_openCount (nI nv) (nI (t).2.1) (nI cap) (nI fn) (nI cn) b_text b_len b_stat b_errPos b_removed b_tType b_tA b_tB b_tName b_tMatch b_tCount b_oc b_cc b_newO b_newC b_openName b_openTok b_vKind b_vNum b_vCnt b_vStr b_vItem b_vKey b_vVal ((t).1) b_fv b_cKind b_cSlot b_cTok b_cVal b_cIdx b_dig) : wY_render_85 post (n + 1) (nI s) (nI tk) (nI stp) g_ol g_cl g_newOl g_newCl g_tagName g_parseErr g_openCount (nI nv) (nI (t).2.1) (nI cap) (nI fn) (nI cn) b_text b_len b_stat b_errPos b_removed b_tType b_tA b_tB b_tName b_tMatch b_tCount b_oc b_cc b_newO b_newC b_openName b_openTok b_vKind b_vNum b_vCnt b_vStr b_vItem b_vKey b_vVal ((t).1) b_fv b_cKind b_cSlot b_cTok b_cVal b_cIdx b_dig :=
  br_f (nI_ge (b := 4194304) hst (by decide)) ⟨vp_in_nI hs (by omega), br_t (by rw [nI_clamp (by omega), hC]; exact nI_lt htk (by omega)) (nm_r (e' := nI (s * 100 + tk)) (by rw [la_m100, nI_add]) ⟨vp_in_nI (by omega) (by omega), nm_r (e' := nI 1) (by rw [nI_clamp (by omega)]; exact hK) (br_t rfl (⟨vp_in_nI (by omega) (by omega), nm_r (e' := nI a) (by rw [nI_clamp (by omega)]; exact hA) h⟩))⟩)⟩
end LLYS2
end
section
section LLRD
def rd_C (kk : Nat) (XW : (Int32 → SX → Prop) → Prop) (YW : (Int32 → SY → Prop) → Prop) : Prop := ∃ r u v, i_Rel kk u v ∧ (∀ post : Int32 → SX → Prop, post r u → XW post) ∧ (∀ post : Int32 → SY → Prop, post r v → YW post)
theorem rd_go {kk : Nat} {XW XW' : (Int32 → SX → Prop) → Prop} {YW YW' : (Int32 → SY → Prop) → Prop} (hx : ∀ post, XW' post → XW post) (hy : ∀ post, YW' post → YW post) (h : rd_C kk XW' YW') : rd_C kk XW YW := by
  obtain ⟨r, u, v, a, b, c⟩ := h
  exact ⟨r, u, v, a, fun post h => hx post (b post h), fun post h => hy post (c post h)⟩
/-- where X goes on behind the slot -/
def rn_w (PS : Nat → Nat → Nat) : List (Nat × Nat × Nat × Nat × Nat × Nat) → Int32
  | [] => -1
  | e :: es => if e.1 = 9 then nI (PS 0 (e.2.2.1 + 1)) else rn_w PS es
theorem rn_p1 {PS MT : Nat → Nat → Nat} {kd ct ln : Nat → Nat} : ∀ (es : List (Nat × Nat × Nat × Nat × Nat × Nat)) (c : Nat), 1 ≤ rn_p PS MT kd ct ln es c := by
  intro es
  induction es with
  | nil => intro c; simp only [rn_p]; omega
  | cons e es ih =>
    intro c
    have := ih (rn_z PS MT e)
    by_cases z : e.1 = 9
    · simp only [rn_p, if_pos z]; omega
    · simp only [rn_p, if_neg z]; omega
theorem rn_r1 {M : Nat → Nat} {TP : Nat → Nat → Nat} {ST : Nat → Nat → List Nat} {nv : Nat} {es : List (Nat × Nat × Nat × Nat × Nat × Nat)} {s : Nat} {hs : List Nat} (h : rn_m M TP ST nv es s hs) (hl : hs.length ≤ 2) : 1 ≤ rn_r es ∧ (s = 0 → 1538 ≤ rn_r es) := by
  rw [rn_rt es s hs h]
  have : hs.length = 0 ∨ hs.length = 1 ∨ hs.length = 2 := by omega
  by_cases z : s = 0
  · rw [if_pos z]
    rcases this with w | w | w <;> rw [w] <;> exact ⟨by decide, fun _ => by decide⟩
  · rw [if_neg z]
    rcases this with w | w | w <;> rw [w] <;> exact ⟨by decide, fun y => absurd y z⟩
variable {f_openMarkLength f_closeMarkLength f_openCount f_compileFrom f_compileTo f_valueCount f_outCap f_outCount f_frameCount f_valueTextLength f_renderAt f_renderTo f_returnAt f_finished f_overflowed : Int32} {a_text a_cellKind a_cellName a_tagEnd a_sectionEnd a_textLength a_slotStatus a_slotError a_openMark a_closeMark a_openTags a_valueKind a_amount a_parts a_fieldValues a_out a_frameValue a_frameList a_frameNext a_frameBody a_valueText : Nat → Int32} {g_ol g_cl g_newOl g_newCl g_tagName g_parseErr g_openCount g_nVals g_outLen g_outCap g_fn g_cn : Int32} {b_text b_len b_stat b_errPos b_removed b_tType b_tA b_tB b_tName b_tMatch b_tCount b_oc b_cc b_newO b_newC b_openName b_openTok b_vKind b_vNum b_vCnt b_vStr b_vItem b_vKey b_vVal b_out b_fv b_cKind b_cSlot b_cTok b_cVal b_cIdx b_dig : Nat → Int32} {kk cap nv root : Nat} {kd ct ln M : Nat → Nat} {PS TP MT : Nat → Nat → Nat} {ST : Nat → Nat → List Nat}
theorem rd_lit (hc1 : 16 ≤ cap) (hc2 : cap ≤ 256) (hT : ir_T ln a_text a_textLength a_slotStatus a_cellKind a_cellName a_tagEnd a_sectionEnd) (hV : vl_R nv kd ct a_valueKind a_amount a_parts a_fieldValues b_vKind b_vNum b_vCnt b_vStr b_vItem b_vKey b_vVal) (hD : sd_P a_slotStatus ln M PS TP MT ST a_text a_cellKind a_cellName a_tagEnd a_sectionEnd b_removed b_tType b_tA b_tB b_tName b_tMatch b_tCount) {es : List (Nat × Nat × Nat × Nat × Nat × Nat)} {s tk fc fn cn F FYn stY : Nat} {fV fL fN fB vt yv cK cS cT cV cI dg : Nat → Int32} {vl : Int32} (hs : s < 4) (h0 : a_slotStatus s = 0) (ht : tk < M s) (h1 : TP s tk = 1)
    (cont : ∀ (t : (Nat → Int32) × Nat × Int32) (FX stX : Nat), em_g cap t → t.2.2 = 0 → F < FX → stX + F < 2410256 → rd_C kk (fun post => wX_render_30 post FX (nI stX) f_openMarkLength f_closeMarkLength f_openCount f_compileFrom f_compileTo (nI nv) (nI cap) (nI (t).2.1) (nI fc) vl (nI (s * 96 + PS s (tk + 1))) (nI (s * 96 + ln s)) (rn_w PS es) 0 ((t).2.2) a_text a_cellKind a_cellName a_tagEnd a_sectionEnd a_textLength a_slotStatus a_slotError a_openMark a_closeMark a_openTags a_valueKind a_amount a_parts a_fieldValues ((t).1) fV fL fN fB vt) (fun post => wY_render_85 post FYn (nI s) (nI (tk + 1)) (nI (stY + 1)) g_ol g_cl g_newOl g_newCl g_tagName g_parseErr g_openCount (nI nv) (nI (t).2.1) (nI cap) (nI fn) (nI cn) a_text a_textLength a_slotStatus a_slotError b_removed b_tType b_tA b_tB b_tName b_tMatch b_tCount b_oc b_cc b_newO b_newC b_openName b_openTok b_vKind b_vNum b_vCnt b_vStr b_vItem b_vKey b_vVal ((t).1) yv cK cS cT cV cI dg)) :
    ∀ (d c : Nat) (t : (Nat → Int32) × Nat × Int32) (FX stX : Nat), c + d = PS s (tk + 1) → PS s tk ≤ c → em_g cap t → t.2.2 = 0 → 1 ≤ F → F + d < FX → stX + F + d < 2410256 → rd_C kk (fun post => wX_render_30 post FX (nI stX) f_openMarkLength f_closeMarkLength f_openCount f_compileFrom f_compileTo (nI nv) (nI cap) (nI (t).2.1) (nI fc) vl (nI (s * 96 + c)) (nI (s * 96 + ln s)) (rn_w PS es) 0 ((t).2.2) a_text a_cellKind a_cellName a_tagEnd a_sectionEnd a_textLength a_slotStatus a_slotError a_openMark a_closeMark a_openTags a_valueKind a_amount a_parts a_fieldValues ((t).1) fV fL fN fB vt) (fun post => wY_render_194 post (wY_render_85 post FYn) (nI s) (nI tk) (nI stY) (nI (s * 100 + tk)) (d + 1) (nI c) g_ol g_cl g_newOl g_newCl g_tagName g_parseErr g_openCount (nI nv) (nI (t).2.1) (nI cap) (nI fn) (nI cn) a_text a_textLength a_slotStatus a_slotError b_removed b_tType b_tA b_tB b_tName b_tMatch b_tCount b_oc b_cc b_newO b_newC b_openName b_openTok b_vKind b_vNum b_vCnt b_vStr b_vItem b_vKey b_vVal ((t).1) yv cK cS cT cV cI dg) := by
  obtain ⟨hl, hF, hC, _⟩ := hD s hs h0
  have hmp := tk_mp hF.1
  have hle : PS s (tk + 1) ≤ ln s := tk_ap hF.1 (by omega)
  have hB : b_tB (s * 100 + tk) = nI (PS s (tk + 1)) := (hF.1.2.2 tk ht).2.2.2.2.2
  have e4 : (nI (s * 100 + tk)).toNatClampNeg = s * 100 + tk := nI_clamp (by omega)
  have i4 : vp_in (nI (s * 100 + tk)) 400 := vp_in_nI (by omega) (by omega)
  intro d
  induction d with
  | zero =>
    intro c t FX stX hcd hlo g hz hF1 hFX hst
    have e : c = PS s (tk + 1) := by omega
    subst e
    refine rd_go (fun post h => h) (fun post h => ?_) (cont t FX stX g hz (by omega) (by omega))
    exact ⟨i4, br_t (by rw [e4, hB]; exact nI_le (Nat.le_refl _) (by omega)) (nm_r (nI_1 _) (nm_r (nI_1 _) h))⟩
  | succ d ih =>
    intro c t FX stX hcd hlo g hz hF1 hFX hst
    obtain ⟨FX', rfl⟩ : ∃ FX', FX = FX' + 1 := ⟨FX - 1, by omega⟩
    have hKc := hF.2.1.1 tk ht h1 c hlo (by omega)
    obtain ⟨q1, q2, _⟩ := hF.2.1.2.2.2.1 c (by omega)
    have ec : nI s * 96 + nI c = nI (s * 96 + c) := by rw [la_m96, nI_add]
    have ic : vp_in (nI s * 96 + nI c) 384 := by rw [ec]; exact vp_in_nI (by omega) (by omega)
    have ecc : (nI s * 96 + nI c).toNatClampNeg = s * 96 + c := by rw [ec]; exact nI_clamp (by omega)
    have hlt : ¬ b_tB (nI (s * 100 + tk)).toNatClampNeg ≤ nI c := by rw [e4, hB]; exact nI_ge (by omega) (by omega)
    rcases hKc with hK | hK
    · have hR : b_removed (s * 96 + c) = 0 := by
        rcases q1 with z | z
        · exact z
        · rw [q2.mp z] at hK; exact absurd hK (by decide)
      by_cases ov : (em_1 cap t (a_text (s * 96 + c))).2.2 = 0
      · refine rd_go (fun post h => xs_lit (by omega) hz hc2 (show s * 96 + c < s * 96 + ln s from by omega) (by omega) g hK h) (fun post h => ?_) (ih (c + 1) (em_1 cap t (a_text (s * 96 + c))) FX' (stX + 1) (by omega) (by omega) (em_g1 g _) ov hF1 (by omega) (by omega))
        refine ⟨i4, br_f hlt ⟨ic, br_t (by rw [ecc]; exact hR) ⟨ic, ?_⟩⟩⟩
        rw [ecc]
        exact ye_1 hc2 g hz (fun _ => br_f (by decide) (nm_r (nI_1 _) h)) (fun z => absurd ov z)
      · obtain ⟨FX2, rfl⟩ : ∃ FX2, FX' = FX2 + 1 := ⟨FX' - 1, by omega⟩
        refine ⟨-9, (f_openMarkLength, f_closeMarkLength, f_openCount, f_compileFrom, f_compileTo, nI nv, nI cap, nI (em_1 cap t (a_text (s * 96 + c))).2.1, nI fc, vl, nI (s * 96 + c + 1), nI (s * 96 + ln s), rn_w PS es, 0, (em_1 cap t (a_text (s * 96 + c))).2.2, a_text, a_cellKind, a_cellName, a_tagEnd, a_sectionEnd, a_textLength, a_slotStatus, a_slotError, a_openMark, a_closeMark, a_openTags, a_valueKind, a_amount, a_parts, a_fieldValues, (em_1 cap t (a_text (s * 96 + c))).1, fV, fL, fN, fB, vt), (g_ol, g_cl, g_newOl, g_newCl, g_tagName, g_parseErr, g_openCount, nI nv, nI (em_1 cap t (a_text (s * 96 + c))).2.1, nI cap, nI fn, nI cn, a_text, a_textLength, a_slotStatus, a_slotError, b_removed, b_tType, b_tA, b_tB, b_tName, b_tMatch, b_tCount, b_oc, b_cc, b_newO, b_newC, b_openName, b_openTok, b_vKind, b_vNum, b_vCnt, b_vStr, b_vItem, b_vKey, b_vVal, (em_1 cap t (a_text (s * 96 + c))).1, yv, cK, cS, cT, cV, cI, dg), ir_mk hc1 hc2 (em_g1 g _).1 hT hV, fun post h => xs_lit (by omega) hz hc2 (show s * 96 + c < s * 96 + ln s from by omega) (by omega) g hK (xs_ovf ov h), fun post h => ?_⟩
        refine ⟨i4, br_f hlt ⟨ic, br_t (by rw [ecc]; exact hR) ⟨ic, ?_⟩⟩⟩
        rw [ecc]
        exact ye_1 hc2 g hz (fun z => absurd z ov) (fun _ => br_t rfl h)
    · have hR : ¬ b_removed (s * 96 + c) = 0 := by
        rw [q2.mpr hK]; decide
      refine rd_go (fun post h => xs_rem (by omega) hz hc2 (show s * 96 + c < s * 96 + ln s from by omega) (by omega) hK h) (fun post h => ?_) (ih (c + 1) t FX' (stX + 1) (by omega) (by omega) g hz hF1 (by omega) (by omega))
      exact ⟨i4, br_f hlt ⟨ic, br_f (by rw [ecc]; exact hR) (nm_r (nI_1 _) h)⟩⟩
end LLRD
end
section
section LLRM
variable {f_openMarkLength f_closeMarkLength f_openCount f_compileFrom f_compileTo f_valueCount f_outCap f_outCount f_frameCount f_valueTextLength f_renderAt f_renderTo f_returnAt f_finished f_overflowed : Int32} {a_text a_cellKind a_cellName a_tagEnd a_sectionEnd a_textLength a_slotStatus a_slotError a_openMark a_closeMark a_openTags a_valueKind a_amount a_parts a_fieldValues a_out a_frameValue a_frameList a_frameNext a_frameBody a_valueText : Nat → Int32} {g_ol g_cl g_newOl g_newCl g_tagName g_parseErr g_openCount g_nVals g_outLen g_outCap g_fn g_cn : Int32} {b_text b_len b_stat b_errPos b_removed b_tType b_tA b_tB b_tName b_tMatch b_tCount b_oc b_cc b_newO b_newC b_openName b_openTok b_vKind b_vNum b_vCnt b_vStr b_vItem b_vKey b_vVal b_out b_fv b_cKind b_cSlot b_cTok b_cVal b_cIdx b_dig : Nat → Int32} {kk cap nv root : Nat} {kd ct ln M : Nat → Nat} {PS TP MT : Nat → Nat → Nat} {ST : Nat → Nat → List Nat}
theorem rn_w0 : ∀ (es : List (Nat × Nat × Nat × Nat × Nat × Nat)) (hs : List Nat), rn_m M TP ST nv es 0 hs → rn_w PS es = -1 := by
  intro es
  induction es with
  | nil => intro hs _; rfl
  | cons e es ih =>
    intro hs h
    rcases h with ⟨_, g2, _⟩ | ⟨g1, g2, g3, g4, g5, g6, g7⟩
    · exact absurd rfl g2
    · simp only [rn_w, if_neg (show ¬ e.1 = 9 from by omega)]
      exact ih _ g7
/-- the induction's claim below B -/
def rd_I (kk cap nv root : Nat) (kd ct ln M : Nat → Nat) (PS TP MT : Nat → Nat → Nat) (ST : Nat → Nat → List Nat) (f_openMarkLength f_closeMarkLength f_openCount f_compileFrom f_compileTo f_valueCount f_outCap f_outCount f_frameCount f_valueTextLength f_renderAt f_renderTo f_returnAt f_finished f_overflowed : Int32) (a_text a_cellKind a_cellName a_tagEnd a_sectionEnd a_textLength a_slotStatus a_slotError a_openMark a_closeMark a_openTags a_valueKind a_amount a_parts a_fieldValues a_out a_frameValue a_frameList a_frameNext a_frameBody a_valueText : Nat → Int32) (g_ol g_cl g_newOl g_newCl g_tagName g_parseErr g_openCount g_nVals g_outLen g_outCap g_fn g_cn : Int32) (b_text b_len b_stat b_errPos b_removed b_tType b_tA b_tB b_tName b_tMatch b_tCount b_oc b_cc b_newO b_newC b_openName b_openTok b_vKind b_vNum b_vCnt b_vStr b_vItem b_vKey b_vVal b_out b_fv b_cKind b_cSlot b_cTok b_cVal b_cIdx b_dig : Nat → Int32) (B : Nat) : Prop := ∀ (es : List (Nat × Nat × Nat × Nat × Nat × Nat)) (s tk fc fn cn : Nat) (t : (Nat → Int32) × Nat × Int32) (fV fL fN fB vt yv cK cS cT cV cI dg : Nat → Int32) (vl : Int32) (FX FY stX stY : Nat), s < 4 → a_slotStatus s = 0 → tk ≤ M s → rn_m M TP ST nv es s (ST s tk) → rq_P MT es s tk → rn_s PS kd root fV fL fN fB yv cK cS cT cV cI es fc fn cn → em_g cap t → t.2.2 = 0 → rn_p PS MT kd ct ln es (PS s tk) ≤ B → B < FX → B < FY → stX + B < 2410256 → stY + B < 4194304 → rd_C kk (fun post => wX_render_30 post FX (nI stX) f_openMarkLength f_closeMarkLength f_openCount f_compileFrom f_compileTo (nI nv) (nI cap) (nI (t).2.1) (nI fc) vl (nI (s * 96 + PS s tk)) (nI (s * 96 + ln s)) (rn_w PS es) 0 ((t).2.2) a_text a_cellKind a_cellName a_tagEnd a_sectionEnd a_textLength a_slotStatus a_slotError a_openMark a_closeMark a_openTags a_valueKind a_amount a_parts a_fieldValues ((t).1) fV fL fN fB vt) (fun post => wY_render_85 post FY (nI s) (nI tk) (nI stY) g_ol g_cl g_newOl g_newCl g_tagName g_parseErr g_openCount (nI nv) (nI (t).2.1) (nI cap) (nI fn) (nI cn) a_text a_textLength a_slotStatus a_slotError b_removed b_tType b_tA b_tB b_tName b_tMatch b_tCount b_oc b_cc b_newO b_newC b_openName b_openTok b_vKind b_vNum b_vCnt b_vStr b_vItem b_vKey b_vVal ((t).1) yv cK cS cT cV cI dg)
theorem rm_1 (hc1 : 16 ≤ cap) (hc2 : cap ≤ 256) (hT : ir_T ln a_text a_textLength a_slotStatus a_cellKind a_cellName a_tagEnd a_sectionEnd) (hV : vl_R nv kd ct a_valueKind a_amount a_parts a_fieldValues b_vKind b_vNum b_vCnt b_vStr b_vItem b_vKey b_vVal) (hD : sd_P a_slotStatus ln M PS TP MT ST a_text a_cellKind a_cellName a_tagEnd a_sectionEnd b_removed b_tType b_tA b_tB b_tName b_tMatch b_tCount) (r1 : 1 ≤ root) (r2 : root ≤ nv) (h00 : a_slotStatus 0 = 0) {B : Nat} {es : List (Nat × Nat × Nat × Nat × Nat × Nat)} {s tk fc fn cn : Nat} {t : (Nat → Int32) × Nat × Int32} {fV fL fN fB vt yv cK cS cT cV cI dg : Nat → Int32} {vl : Int32} {FX FY stX stY : Nat} (ih : ∀ B', B' < B → rd_I kk cap nv root kd ct ln M PS TP MT ST f_openMarkLength f_closeMarkLength f_openCount f_compileFrom f_compileTo f_valueCount f_outCap f_outCount f_frameCount f_valueTextLength f_renderAt f_renderTo f_returnAt f_finished f_overflowed a_text a_cellKind a_cellName a_tagEnd a_sectionEnd a_textLength a_slotStatus a_slotError a_openMark a_closeMark a_openTags a_valueKind a_amount a_parts a_fieldValues a_out a_frameValue a_frameList a_frameNext a_frameBody a_valueText g_ol g_cl g_newOl g_newCl g_tagName g_parseErr g_openCount g_nVals g_outLen g_outCap g_fn g_cn b_text b_len b_stat b_errPos b_removed b_tType b_tA b_tB b_tName b_tMatch b_tCount b_oc b_cc b_newO b_newC b_openName b_openTok b_vKind b_vNum b_vCnt b_vStr b_vItem b_vKey b_vVal b_out b_fv b_cKind b_cSlot b_cTok b_cVal b_cIdx b_dig B') (hs : s < 4) (h0 : a_slotStatus s = 0) (hm : rn_m M TP ST nv es s (ST s tk)) (hq : rq_P MT es s tk) (hS : rn_s PS kd root fV fL fN fB yv cK cS cT cV cI es fc fn cn) (g : em_g cap t) (hz : t.2.2 = 0) (hB : rn_p PS MT kd ct ln es (PS s tk) ≤ B) (hFX : B < FX) (hFY : B < FY) (hsX : stX + B < 2410256) (hsY : stY + B < 4194304) (ht : tk < M s) (h1 : TP s tk = 1) : rd_C kk (fun post => wX_render_30 post FX (nI stX) f_openMarkLength f_closeMarkLength f_openCount f_compileFrom f_compileTo (nI nv) (nI cap) (nI (t).2.1) (nI fc) vl (nI (s * 96 + PS s tk)) (nI (s * 96 + ln s)) (rn_w PS es) 0 ((t).2.2) a_text a_cellKind a_cellName a_tagEnd a_sectionEnd a_textLength a_slotStatus a_slotError a_openMark a_closeMark a_openTags a_valueKind a_amount a_parts a_fieldValues ((t).1) fV fL fN fB vt) (fun post => wY_render_85 post FY (nI s) (nI tk) (nI stY) g_ol g_cl g_newOl g_newCl g_tagName g_parseErr g_openCount (nI nv) (nI (t).2.1) (nI cap) (nI fn) (nI cn) a_text a_textLength a_slotStatus a_slotError b_removed b_tType b_tA b_tB b_tName b_tMatch b_tCount b_oc b_cc b_newO b_newC b_openName b_openTok b_vKind b_vNum b_vCnt b_vStr b_vItem b_vKey b_vVal ((t).1) yv cK cS cT cV cI dg) := by
  obtain ⟨hl, hF, hC, hMT⟩ := hD s hs h0
  have hmp := tk_mp hF.1
  obtain ⟨FX', rfl⟩ : ∃ FX', FX = FX' + 1 := ⟨FX - 1, by omega⟩
  obtain ⟨FY', rfl⟩ : ∃ FY', FY = FY' + 1 := ⟨FY - 1, by omega⟩
  have len2 := (hF.2.2.1.2.2.1 tk (by omega)).1
  have l00 : ∀ x, x < M 0 → (ST 0 x).length ≤ 2 := fun x hx => ((hD 0 (by omega) h00).2.1.2.2.1.2.2.1 x (by omega)).1
  have b5 : fc ≤ (ST s tk).length + 3 := by
    have a := rn_sf es fc fn cn hS
    have b := rn_nl l00 es s _ hm
    split at b <;> omega
  have bl : es.length ≤ (ST s tk).length + 3 := by
    have b := rn_len l00 es s _ hm
    split at b <;> omega
  have bn := rn_sn es fc fn cn hS
  have rt := rn_r1 hm len2
  have p1 := rn_p1 (PS := PS) (MT := MT) (kd := kd) (ct := ct) (ln := ln) es (PS s tk)
  have hA := hF.1.2.2 tk ht
  have hle : PS s (tk + 1) ≤ ln s := tk_ap hF.1 (by omega)
  have hqr : s * 96 + PS s tk < s * 96 + ln s := by omega
  have hrt : s * 96 + ln s ≤ 384 := by omega
  have n6 : TP s tk ≠ 6 := by omega
  have n7 : TP s tk ≠ 7 := by omega
  have n8 : TP s tk ≠ 8 := by omega
  have rqn := rq_go hD hs h0 ht n8 hm hq
  have hmn : rn_m M TP ST nv es s (ST s (tk + 1)) := by rw [tk_oth hF ht n6 n7 n8]; exact hm
  have pot : rn_p PS MT kd ct ln es (PS s (tk + 1)) + (PS s (tk + 1) - PS s tk) ≤ rn_p PS MT kd ct ln es (PS s tk) := by
    have a := rn_d (kd := kd) (ct := ct) es (c := PS s tk) (c' := PS s (tk + 1)) (by omega) (rq_e hD hs h0 (by omega) hmn rqn)
    have b : 1 * (PS s (tk + 1) - PS s tk) ≤ rn_r es * (PS s (tk + 1) - PS s tk) := Nat.mul_le_mul_right _ rt.1
    omega
  have p2 := rn_p1 (PS := PS) (MT := MT) (kd := kd) (ct := ct) (ln := ln) es (PS s (tk + 1))
  refine rd_go (fun post h => h) (fun post h => ys_lit (by omega) hs (by omega) ht hC (by rw [hA.2.2.2.1, h1]) hA.2.2.2.2.1 ⟨_, h⟩) (rd_lit hc1 hc2 hT hV hD (F := B - (PS s (tk + 1) - PS s tk)) hs h0 ht h1 (fun t' FX2 stX2 g' hz' a b => ih (B - (PS s (tk + 1) - PS s tk)) (by omega) es s (tk + 1) fc fn cn t' fV fL fN fB vt yv cK cS cT cV cI dg vl FX2 FY' stX2 (stY + 1) hs h0 (by omega) hmn rqn hS g' hz' (by omega) a (by omega) b (by omega)) (PS s (tk + 1) - PS s tk) (PS s tk) t (FX' + 1) stX (by omega) (Nat.le_refl _) g hz (by omega) (by omega) (by omega))
theorem rm_2 (hc1 : 16 ≤ cap) (hc2 : cap ≤ 256) (hT : ir_T ln a_text a_textLength a_slotStatus a_cellKind a_cellName a_tagEnd a_sectionEnd) (hV : vl_R nv kd ct a_valueKind a_amount a_parts a_fieldValues b_vKind b_vNum b_vCnt b_vStr b_vItem b_vKey b_vVal) (hD : sd_P a_slotStatus ln M PS TP MT ST a_text a_cellKind a_cellName a_tagEnd a_sectionEnd b_removed b_tType b_tA b_tB b_tName b_tMatch b_tCount) (r1 : 1 ≤ root) (r2 : root ≤ nv) (h00 : a_slotStatus 0 = 0) {B : Nat} {es : List (Nat × Nat × Nat × Nat × Nat × Nat)} {s tk fc fn cn : Nat} {t : (Nat → Int32) × Nat × Int32} {fV fL fN fB vt yv cK cS cT cV cI dg : Nat → Int32} {vl : Int32} {FX FY stX stY : Nat} (ih : ∀ B', B' < B → rd_I kk cap nv root kd ct ln M PS TP MT ST f_openMarkLength f_closeMarkLength f_openCount f_compileFrom f_compileTo f_valueCount f_outCap f_outCount f_frameCount f_valueTextLength f_renderAt f_renderTo f_returnAt f_finished f_overflowed a_text a_cellKind a_cellName a_tagEnd a_sectionEnd a_textLength a_slotStatus a_slotError a_openMark a_closeMark a_openTags a_valueKind a_amount a_parts a_fieldValues a_out a_frameValue a_frameList a_frameNext a_frameBody a_valueText g_ol g_cl g_newOl g_newCl g_tagName g_parseErr g_openCount g_nVals g_outLen g_outCap g_fn g_cn b_text b_len b_stat b_errPos b_removed b_tType b_tA b_tB b_tName b_tMatch b_tCount b_oc b_cc b_newO b_newC b_openName b_openTok b_vKind b_vNum b_vCnt b_vStr b_vItem b_vKey b_vVal b_out b_fv b_cKind b_cSlot b_cTok b_cVal b_cIdx b_dig B') (hs : s < 4) (h0 : a_slotStatus s = 0) (hm : rn_m M TP ST nv es s (ST s tk)) (hq : rq_P MT es s tk) (hS : rn_s PS kd root fV fL fN fB yv cK cS cT cV cI es fc fn cn) (g : em_g cap t) (hz : t.2.2 = 0) (hB : rn_p PS MT kd ct ln es (PS s tk) ≤ B) (hFX : B < FX) (hFY : B < FY) (hsX : stX + B < 2410256) (hsY : stY + B < 4194304) (ht : tk < M s) (hk : TP s tk = 2) : rd_C kk (fun post => wX_render_30 post FX (nI stX) f_openMarkLength f_closeMarkLength f_openCount f_compileFrom f_compileTo (nI nv) (nI cap) (nI (t).2.1) (nI fc) vl (nI (s * 96 + PS s tk)) (nI (s * 96 + ln s)) (rn_w PS es) 0 ((t).2.2) a_text a_cellKind a_cellName a_tagEnd a_sectionEnd a_textLength a_slotStatus a_slotError a_openMark a_closeMark a_openTags a_valueKind a_amount a_parts a_fieldValues ((t).1) fV fL fN fB vt) (fun post => wY_render_85 post FY (nI s) (nI tk) (nI stY) g_ol g_cl g_newOl g_newCl g_tagName g_parseErr g_openCount (nI nv) (nI (t).2.1) (nI cap) (nI fn) (nI cn) a_text a_textLength a_slotStatus a_slotError b_removed b_tType b_tA b_tB b_tName b_tMatch b_tCount b_oc b_cc b_newO b_newC b_openName b_openTok b_vKind b_vNum b_vCnt b_vStr b_vItem b_vKey b_vVal ((t).1) yv cK cS cT cV cI dg) := by
  obtain ⟨hl, hF, hC, hMT⟩ := hD s hs h0
  have hmp := tk_mp hF.1
  obtain ⟨FX', rfl⟩ : ∃ FX', FX = FX' + 1 := ⟨FX - 1, by omega⟩
  obtain ⟨FY', rfl⟩ : ∃ FY', FY = FY' + 1 := ⟨FY - 1, by omega⟩
  have len2 := (hF.2.2.1.2.2.1 tk (by omega)).1
  have l00 : ∀ x, x < M 0 → (ST 0 x).length ≤ 2 := fun x hx => ((hD 0 (by omega) h00).2.1.2.2.1.2.2.1 x (by omega)).1
  have b5 : fc ≤ (ST s tk).length + 3 := by
    have a := rn_sf es fc fn cn hS
    have b := rn_nl l00 es s _ hm
    split at b <;> omega
  have bl : es.length ≤ (ST s tk).length + 3 := by
    have b := rn_len l00 es s _ hm
    split at b <;> omega
  have bn := rn_sn es fc fn cn hS
  have rt := rn_r1 hm len2
  have p1 := rn_p1 (PS := PS) (MT := MT) (kd := kd) (ct := ct) (ln := ln) es (PS s tk)
  have hA := hF.1.2.2 tk ht
  have hle : PS s (tk + 1) ≤ ln s := tk_ap hF.1 (by omega)
  have hqr : s * 96 + PS s tk < s * 96 + ln s := by omega
  have hrt : s * 96 + ln s ≤ 384 := by omega
  have n6 : TP s tk ≠ 6 := by omega
  have n7 : TP s tk ≠ 7 := by omega
  have n8 : TP s tk ≠ 8 := by omega
  have rqn := rq_go hD hs h0 ht n8 hm hq
  have hmn : rn_m M TP ST nv es s (ST s (tk + 1)) := by rw [tk_oth hF ht n6 n7 n8]; exact hm
  have pot : rn_p PS MT kd ct ln es (PS s (tk + 1)) + (PS s (tk + 1) - PS s tk) ≤ rn_p PS MT kd ct ln es (PS s tk) := by
    have a := rn_d (kd := kd) (ct := ct) es (c := PS s tk) (c' := PS s (tk + 1)) (by omega) (rq_e hD hs h0 (by omega) hmn rqn)
    have b : 1 * (PS s (tk + 1) - PS s tk) ≤ rn_r es * (PS s (tk + 1) - PS s tk) := Nat.mul_le_mul_right _ rt.1
    omega
  have hKE := hF.2.1.2.1 tk ht (by omega)
  have hKk : a_cellKind (s * 96 + PS s tk) = nI 4 := by rw [hKE.1, hk]; rfl
  have hTy : b_tType (s * 100 + tk) = nI 2 := by rw [hA.2.2.2.1, hk]
  exact rd_go (fun post h => xs_sk4 (by omega) hz hc2 hqr hrt hKk hKE.2.1 h) (fun post h => ys_o2 (by omega) hs (by omega) ht hC hTy h) (ih (B - 1) (by omega) es s (tk + 1) fc fn cn (t) fV fL fN fB vt yv cK cS cT cV cI dg vl FX' FY' (stX + 1) (stY + 1) hs h0 (by omega) hmn rqn hS g hz (by omega) (by omega) (by omega) (by omega) (by omega))
theorem rm_3 (hc1 : 16 ≤ cap) (hc2 : cap ≤ 256) (hT : ir_T ln a_text a_textLength a_slotStatus a_cellKind a_cellName a_tagEnd a_sectionEnd) (hV : vl_R nv kd ct a_valueKind a_amount a_parts a_fieldValues b_vKind b_vNum b_vCnt b_vStr b_vItem b_vKey b_vVal) (hD : sd_P a_slotStatus ln M PS TP MT ST a_text a_cellKind a_cellName a_tagEnd a_sectionEnd b_removed b_tType b_tA b_tB b_tName b_tMatch b_tCount) (r1 : 1 ≤ root) (r2 : root ≤ nv) (h00 : a_slotStatus 0 = 0) {B : Nat} {es : List (Nat × Nat × Nat × Nat × Nat × Nat)} {s tk fc fn cn : Nat} {t : (Nat → Int32) × Nat × Int32} {fV fL fN fB vt yv cK cS cT cV cI dg : Nat → Int32} {vl : Int32} {FX FY stX stY : Nat} (ih : ∀ B', B' < B → rd_I kk cap nv root kd ct ln M PS TP MT ST f_openMarkLength f_closeMarkLength f_openCount f_compileFrom f_compileTo f_valueCount f_outCap f_outCount f_frameCount f_valueTextLength f_renderAt f_renderTo f_returnAt f_finished f_overflowed a_text a_cellKind a_cellName a_tagEnd a_sectionEnd a_textLength a_slotStatus a_slotError a_openMark a_closeMark a_openTags a_valueKind a_amount a_parts a_fieldValues a_out a_frameValue a_frameList a_frameNext a_frameBody a_valueText g_ol g_cl g_newOl g_newCl g_tagName g_parseErr g_openCount g_nVals g_outLen g_outCap g_fn g_cn b_text b_len b_stat b_errPos b_removed b_tType b_tA b_tB b_tName b_tMatch b_tCount b_oc b_cc b_newO b_newC b_openName b_openTok b_vKind b_vNum b_vCnt b_vStr b_vItem b_vKey b_vVal b_out b_fv b_cKind b_cSlot b_cTok b_cVal b_cIdx b_dig B') (hs : s < 4) (h0 : a_slotStatus s = 0) (hm : rn_m M TP ST nv es s (ST s tk)) (hq : rq_P MT es s tk) (hS : rn_s PS kd root fV fL fN fB yv cK cS cT cV cI es fc fn cn) (g : em_g cap t) (hz : t.2.2 = 0) (hB : rn_p PS MT kd ct ln es (PS s tk) ≤ B) (hFX : B < FX) (hFY : B < FY) (hsX : stX + B < 2410256) (hsY : stY + B < 4194304) (ht : tk < M s) (hk : TP s tk = 3) : rd_C kk (fun post => wX_render_30 post FX (nI stX) f_openMarkLength f_closeMarkLength f_openCount f_compileFrom f_compileTo (nI nv) (nI cap) (nI (t).2.1) (nI fc) vl (nI (s * 96 + PS s tk)) (nI (s * 96 + ln s)) (rn_w PS es) 0 ((t).2.2) a_text a_cellKind a_cellName a_tagEnd a_sectionEnd a_textLength a_slotStatus a_slotError a_openMark a_closeMark a_openTags a_valueKind a_amount a_parts a_fieldValues ((t).1) fV fL fN fB vt) (fun post => wY_render_85 post FY (nI s) (nI tk) (nI stY) g_ol g_cl g_newOl g_newCl g_tagName g_parseErr g_openCount (nI nv) (nI (t).2.1) (nI cap) (nI fn) (nI cn) a_text a_textLength a_slotStatus a_slotError b_removed b_tType b_tA b_tB b_tName b_tMatch b_tCount b_oc b_cc b_newO b_newC b_openName b_openTok b_vKind b_vNum b_vCnt b_vStr b_vItem b_vKey b_vVal ((t).1) yv cK cS cT cV cI dg) := by
  obtain ⟨hl, hF, hC, hMT⟩ := hD s hs h0
  have hmp := tk_mp hF.1
  obtain ⟨FX', rfl⟩ : ∃ FX', FX = FX' + 1 := ⟨FX - 1, by omega⟩
  obtain ⟨FY', rfl⟩ : ∃ FY', FY = FY' + 1 := ⟨FY - 1, by omega⟩
  have len2 := (hF.2.2.1.2.2.1 tk (by omega)).1
  have l00 : ∀ x, x < M 0 → (ST 0 x).length ≤ 2 := fun x hx => ((hD 0 (by omega) h00).2.1.2.2.1.2.2.1 x (by omega)).1
  have b5 : fc ≤ (ST s tk).length + 3 := by
    have a := rn_sf es fc fn cn hS
    have b := rn_nl l00 es s _ hm
    split at b <;> omega
  have bl : es.length ≤ (ST s tk).length + 3 := by
    have b := rn_len l00 es s _ hm
    split at b <;> omega
  have bn := rn_sn es fc fn cn hS
  have rt := rn_r1 hm len2
  have p1 := rn_p1 (PS := PS) (MT := MT) (kd := kd) (ct := ct) (ln := ln) es (PS s tk)
  have hA := hF.1.2.2 tk ht
  have hle : PS s (tk + 1) ≤ ln s := tk_ap hF.1 (by omega)
  have hqr : s * 96 + PS s tk < s * 96 + ln s := by omega
  have hrt : s * 96 + ln s ≤ 384 := by omega
  have n6 : TP s tk ≠ 6 := by omega
  have n7 : TP s tk ≠ 7 := by omega
  have n8 : TP s tk ≠ 8 := by omega
  have rqn := rq_go hD hs h0 ht n8 hm hq
  have hmn : rn_m M TP ST nv es s (ST s (tk + 1)) := by rw [tk_oth hF ht n6 n7 n8]; exact hm
  have pot : rn_p PS MT kd ct ln es (PS s (tk + 1)) + (PS s (tk + 1) - PS s tk) ≤ rn_p PS MT kd ct ln es (PS s tk) := by
    have a := rn_d (kd := kd) (ct := ct) es (c := PS s tk) (c' := PS s (tk + 1)) (by omega) (rq_e hD hs h0 (by omega) hmn rqn)
    have b : 1 * (PS s (tk + 1) - PS s tk) ≤ rn_r es * (PS s (tk + 1) - PS s tk) := Nat.mul_le_mul_right _ rt.1
    omega
  have hKE := hF.2.1.2.1 tk ht (by omega)
  have hKk : a_cellKind (s * 96 + PS s tk) = nI 5 := by rw [hKE.1, hk]; rfl
  have hTy : b_tType (s * 100 + tk) = nI 3 := by rw [hA.2.2.2.1, hk]
  exact rd_go (fun post h => xs_sk5 (by omega) hz hc2 hqr hrt hKk hKE.2.1 h) (fun post h => ys_o3 (by omega) hs (by omega) ht hC hTy h) (ih (B - 1) (by omega) es s (tk + 1) fc fn cn (t) fV fL fN fB vt yv cK cS cT cV cI dg vl FX' FY' (stX + 1) (stY + 1) hs h0 (by omega) hmn rqn hS g hz (by omega) (by omega) (by omega) (by omega) (by omega))
theorem rm_4 (hc1 : 16 ≤ cap) (hc2 : cap ≤ 256) (hT : ir_T ln a_text a_textLength a_slotStatus a_cellKind a_cellName a_tagEnd a_sectionEnd) (hV : vl_R nv kd ct a_valueKind a_amount a_parts a_fieldValues b_vKind b_vNum b_vCnt b_vStr b_vItem b_vKey b_vVal) (hD : sd_P a_slotStatus ln M PS TP MT ST a_text a_cellKind a_cellName a_tagEnd a_sectionEnd b_removed b_tType b_tA b_tB b_tName b_tMatch b_tCount) (r1 : 1 ≤ root) (r2 : root ≤ nv) (h00 : a_slotStatus 0 = 0) {B : Nat} {es : List (Nat × Nat × Nat × Nat × Nat × Nat)} {s tk fc fn cn : Nat} {t : (Nat → Int32) × Nat × Int32} {fV fL fN fB vt yv cK cS cT cV cI dg : Nat → Int32} {vl : Int32} {FX FY stX stY : Nat} (ih : ∀ B', B' < B → rd_I kk cap nv root kd ct ln M PS TP MT ST f_openMarkLength f_closeMarkLength f_openCount f_compileFrom f_compileTo f_valueCount f_outCap f_outCount f_frameCount f_valueTextLength f_renderAt f_renderTo f_returnAt f_finished f_overflowed a_text a_cellKind a_cellName a_tagEnd a_sectionEnd a_textLength a_slotStatus a_slotError a_openMark a_closeMark a_openTags a_valueKind a_amount a_parts a_fieldValues a_out a_frameValue a_frameList a_frameNext a_frameBody a_valueText g_ol g_cl g_newOl g_newCl g_tagName g_parseErr g_openCount g_nVals g_outLen g_outCap g_fn g_cn b_text b_len b_stat b_errPos b_removed b_tType b_tA b_tB b_tName b_tMatch b_tCount b_oc b_cc b_newO b_newC b_openName b_openTok b_vKind b_vNum b_vCnt b_vStr b_vItem b_vKey b_vVal b_out b_fv b_cKind b_cSlot b_cTok b_cVal b_cIdx b_dig B') (hs : s < 4) (h0 : a_slotStatus s = 0) (hm : rn_m M TP ST nv es s (ST s tk)) (hq : rq_P MT es s tk) (hS : rn_s PS kd root fV fL fN fB yv cK cS cT cV cI es fc fn cn) (g : em_g cap t) (hz : t.2.2 = 0) (hB : rn_p PS MT kd ct ln es (PS s tk) ≤ B) (hFX : B < FX) (hFY : B < FY) (hsX : stX + B < 2410256) (hsY : stY + B < 4194304) (ht : tk < M s) (hk : TP s tk = 4) : rd_C kk (fun post => wX_render_30 post FX (nI stX) f_openMarkLength f_closeMarkLength f_openCount f_compileFrom f_compileTo (nI nv) (nI cap) (nI (t).2.1) (nI fc) vl (nI (s * 96 + PS s tk)) (nI (s * 96 + ln s)) (rn_w PS es) 0 ((t).2.2) a_text a_cellKind a_cellName a_tagEnd a_sectionEnd a_textLength a_slotStatus a_slotError a_openMark a_closeMark a_openTags a_valueKind a_amount a_parts a_fieldValues ((t).1) fV fL fN fB vt) (fun post => wY_render_85 post FY (nI s) (nI tk) (nI stY) g_ol g_cl g_newOl g_newCl g_tagName g_parseErr g_openCount (nI nv) (nI (t).2.1) (nI cap) (nI fn) (nI cn) a_text a_textLength a_slotStatus a_slotError b_removed b_tType b_tA b_tB b_tName b_tMatch b_tCount b_oc b_cc b_newO b_newC b_openName b_openTok b_vKind b_vNum b_vCnt b_vStr b_vItem b_vKey b_vVal ((t).1) yv cK cS cT cV cI dg) := by
  obtain ⟨hl, hF, hC, hMT⟩ := hD s hs h0
  have hmp := tk_mp hF.1
  obtain ⟨FX', rfl⟩ : ∃ FX', FX = FX' + 1 := ⟨FX - 1, by omega⟩
  obtain ⟨FY', rfl⟩ : ∃ FY', FY = FY' + 1 := ⟨FY - 1, by omega⟩
  have len2 := (hF.2.2.1.2.2.1 tk (by omega)).1
  have l00 : ∀ x, x < M 0 → (ST 0 x).length ≤ 2 := fun x hx => ((hD 0 (by omega) h00).2.1.2.2.1.2.2.1 x (by omega)).1
  have b5 : fc ≤ (ST s tk).length + 3 := by
    have a := rn_sf es fc fn cn hS
    have b := rn_nl l00 es s _ hm
    split at b <;> omega
  have bl : es.length ≤ (ST s tk).length + 3 := by
    have b := rn_len l00 es s _ hm
    split at b <;> omega
  have bn := rn_sn es fc fn cn hS
  have rt := rn_r1 hm len2
  have p1 := rn_p1 (PS := PS) (MT := MT) (kd := kd) (ct := ct) (ln := ln) es (PS s tk)
  have hA := hF.1.2.2 tk ht
  have hle : PS s (tk + 1) ≤ ln s := tk_ap hF.1 (by omega)
  have hqr : s * 96 + PS s tk < s * 96 + ln s := by omega
  have hrt : s * 96 + ln s ≤ 384 := by omega
  have n6 : TP s tk ≠ 6 := by omega
  have n7 : TP s tk ≠ 7 := by omega
  have n8 : TP s tk ≠ 8 := by omega
  have rqn := rq_go hD hs h0 ht n8 hm hq
  have hmn : rn_m M TP ST nv es s (ST s (tk + 1)) := by rw [tk_oth hF ht n6 n7 n8]; exact hm
  have pot : rn_p PS MT kd ct ln es (PS s (tk + 1)) + (PS s (tk + 1) - PS s tk) ≤ rn_p PS MT kd ct ln es (PS s tk) := by
    have a := rn_d (kd := kd) (ct := ct) es (c := PS s tk) (c' := PS s (tk + 1)) (by omega) (rq_e hD hs h0 (by omega) hmn rqn)
    have b : 1 * (PS s (tk + 1) - PS s tk) ≤ rn_r es * (PS s (tk + 1) - PS s tk) := Nat.mul_le_mul_right _ rt.1
    omega
  have hKE := hF.2.1.2.1 tk ht (by omega)
  have hKk : a_cellKind (s * 96 + PS s tk) = nI 2 := by rw [hKE.1, hk]; rfl
  have hTy : b_tType (s * 100 + tk) = nI 4 := by rw [hA.2.2.2.1, hk]
  have hNm := (hF.2.1.2.2.1 tk ht (by omega)).1
  rcases lk_vr (M := M) (TP := TP) (ST := ST) hV r1 r2 (a_cellName (s * 96 + PS s tk)) hm with hL | ⟨w, w1, w2, hL⟩
  · exact rd_go (fun post h => xs_v0e hV r1 r2 hS hm (by omega) g hL hc2 hz hqr hrt hKk hKE.2.1 post FX' stX (by omega) h) (fun post h => ys_v0e hV r1 r2 hS hm (by omega) (by omega) hNm.symm hL hs (by omega) ht hC hTy post FY' stY (by omega) h) (ih (B - 1) (by omega) es s (tk + 1) fc fn cn (t) fV fL fN fB vt yv cK cS cT cV cI dg 0 FX' FY' (stX + 1) (stY + 1) hs h0 (by omega) hmn rqn hS g hz (by omega) (by omega) (by omega) (by omega) (by omega))
  · obtain ⟨j, rfl⟩ : ∃ j, w = j + 1 := ⟨w - 1, by omega⟩
    obtain ⟨vt', vl', hx⟩ := xs_v1e (f_openMarkLength := f_openMarkLength) (f_closeMarkLength := f_closeMarkLength) (f_openCount := f_openCount) (f_compileFrom := f_compileFrom) (f_compileTo := f_compileTo) (f_valueTextLength := vl) (f_returnAt := rn_w PS es) (a_text := a_text) (a_cellKind := a_cellKind) (a_cellName := a_cellName) (a_tagEnd := a_tagEnd) (a_sectionEnd := a_sectionEnd) (a_textLength := a_textLength) (a_slotStatus := a_slotStatus) (a_slotError := a_slotError) (a_openMark := a_openMark) (a_closeMark := a_closeMark) (a_openTags := a_openTags) (a_valueKind := a_valueKind) (a_amount := a_amount) (a_parts := a_parts) (a_fieldValues := a_fieldValues) (a_frameValue := fV) (a_frameList := fL) (a_frameNext := fN) (a_frameBody := fB) (a_valueText := vt) (q := s * 96 + PS s tk) (rt := s * 96 + ln s) (t := t) hV r1 r2 hS hm (by omega) g (by omega) hL hc2 hz hqr hrt hKk hKE.2.1
    obtain ⟨dg', hy⟩ := ys_v1e (g_ol := g_ol) (g_cl := g_cl) (g_newOl := g_newOl) (g_newCl := g_newCl) (g_tagName := g_tagName) (g_parseErr := g_parseErr) (g_openCount := g_openCount) (b_text := a_text) (b_len := a_textLength) (b_stat := a_slotStatus) (b_errPos := a_slotError) (b_removed := b_removed) (b_tType := b_tType) (b_tA := b_tA) (b_tB := b_tB) (b_tName := b_tName) (b_tMatch := b_tMatch) (b_tCount := b_tCount) (b_oc := b_oc) (b_cc := b_cc) (b_newO := b_newO) (b_newC := b_newC) (b_openName := b_openName) (b_openTok := b_openTok) (b_vKind := b_vKind) (b_vNum := b_vNum) (b_vCnt := b_vCnt) (b_vStr := b_vStr) (b_vItem := b_vItem) (b_vKey := b_vKey) (b_vVal := b_vVal) (b_fv := yv) (b_cKind := cK) (b_cSlot := cS) (b_cTok := cT) (b_cVal := cV) (b_cIdx := cI) (b_dig := dg) (s := s) (tk := tk) (t := t) hV r1 r2 hS hm (by omega) (by omega) hNm.symm g hc2 hz (by omega) hL hs (by omega) ht hC hTy
    by_cases ov : (em_l cap t (tx_l true kd ct a_amount a_parts (j + 1))).2.2 = 0
    · exact rd_go (fun post h => hx post FX' stX (by omega) h) (fun post h => hy post FY' stY (by omega) (fun _ => h) (fun z => absurd ov z)) (ih (B - 1) (by omega) es s (tk + 1) fc fn cn (em_l cap t (tx_l true kd ct a_amount a_parts (j + 1))) fV fL fN fB vt' yv cK cS cT cV cI dg' vl' FX' FY' (stX + 1) (stY + 1) hs h0 (by omega) hmn rqn hS (em_gl _ g) ov (by omega) (by omega) (by omega) (by omega) (by omega))
    · obtain ⟨FX2, rfl⟩ : ∃ FX2, FX' = FX2 + 1 := ⟨FX' - 1, by omega⟩
      exact ⟨-9, (f_openMarkLength, f_closeMarkLength, f_openCount, f_compileFrom, f_compileTo, nI nv, nI cap, nI (em_l cap t (tx_l true kd ct a_amount a_parts (j + 1))).2.1, nI fc, vl', nI (s * 96 + PS s (tk + 1)), nI (s * 96 + ln s), rn_w PS es, 0, (em_l cap t (tx_l true kd ct a_amount a_parts (j + 1))).2.2, a_text, a_cellKind, a_cellName, a_tagEnd, a_sectionEnd, a_textLength, a_slotStatus, a_slotError, a_openMark, a_closeMark, a_openTags, a_valueKind, a_amount, a_parts, a_fieldValues, (em_l cap t (tx_l true kd ct a_amount a_parts (j + 1))).1, fV, fL, fN, fB, vt'), (g_ol, g_cl, g_newOl, g_newCl, g_tagName, g_parseErr, g_openCount, nI nv, nI (em_l cap t (tx_l true kd ct a_amount a_parts (j + 1))).2.1, nI cap, nI fn, nI cn, a_text, a_textLength, a_slotStatus, a_slotError, b_removed, b_tType, b_tA, b_tB, b_tName, b_tMatch, b_tCount, b_oc, b_cc, b_newO, b_newC, b_openName, b_openTok, b_vKind, b_vNum, b_vCnt, b_vStr, b_vItem, b_vKey, b_vVal, (em_l cap t (tx_l true kd ct a_amount a_parts (j + 1))).1, yv, cK, cS, cT, cV, cI, dg'), ir_mk hc1 hc2 (em_gl _ g).1 hT hV, fun post h => hx post (FX2 + 1) stX (by omega) (xs_ovf ov h), fun post h => hy post FY' stY (by omega) (fun z => absurd z ov) (fun _ => h)⟩
theorem rm_5 (hc1 : 16 ≤ cap) (hc2 : cap ≤ 256) (hT : ir_T ln a_text a_textLength a_slotStatus a_cellKind a_cellName a_tagEnd a_sectionEnd) (hV : vl_R nv kd ct a_valueKind a_amount a_parts a_fieldValues b_vKind b_vNum b_vCnt b_vStr b_vItem b_vKey b_vVal) (hD : sd_P a_slotStatus ln M PS TP MT ST a_text a_cellKind a_cellName a_tagEnd a_sectionEnd b_removed b_tType b_tA b_tB b_tName b_tMatch b_tCount) (r1 : 1 ≤ root) (r2 : root ≤ nv) (h00 : a_slotStatus 0 = 0) {B : Nat} {es : List (Nat × Nat × Nat × Nat × Nat × Nat)} {s tk fc fn cn : Nat} {t : (Nat → Int32) × Nat × Int32} {fV fL fN fB vt yv cK cS cT cV cI dg : Nat → Int32} {vl : Int32} {FX FY stX stY : Nat} (ih : ∀ B', B' < B → rd_I kk cap nv root kd ct ln M PS TP MT ST f_openMarkLength f_closeMarkLength f_openCount f_compileFrom f_compileTo f_valueCount f_outCap f_outCount f_frameCount f_valueTextLength f_renderAt f_renderTo f_returnAt f_finished f_overflowed a_text a_cellKind a_cellName a_tagEnd a_sectionEnd a_textLength a_slotStatus a_slotError a_openMark a_closeMark a_openTags a_valueKind a_amount a_parts a_fieldValues a_out a_frameValue a_frameList a_frameNext a_frameBody a_valueText g_ol g_cl g_newOl g_newCl g_tagName g_parseErr g_openCount g_nVals g_outLen g_outCap g_fn g_cn b_text b_len b_stat b_errPos b_removed b_tType b_tA b_tB b_tName b_tMatch b_tCount b_oc b_cc b_newO b_newC b_openName b_openTok b_vKind b_vNum b_vCnt b_vStr b_vItem b_vKey b_vVal b_out b_fv b_cKind b_cSlot b_cTok b_cVal b_cIdx b_dig B') (hs : s < 4) (h0 : a_slotStatus s = 0) (hm : rn_m M TP ST nv es s (ST s tk)) (hq : rq_P MT es s tk) (hS : rn_s PS kd root fV fL fN fB yv cK cS cT cV cI es fc fn cn) (g : em_g cap t) (hz : t.2.2 = 0) (hB : rn_p PS MT kd ct ln es (PS s tk) ≤ B) (hFX : B < FX) (hFY : B < FY) (hsX : stX + B < 2410256) (hsY : stY + B < 4194304) (ht : tk < M s) (hk : TP s tk = 5) : rd_C kk (fun post => wX_render_30 post FX (nI stX) f_openMarkLength f_closeMarkLength f_openCount f_compileFrom f_compileTo (nI nv) (nI cap) (nI (t).2.1) (nI fc) vl (nI (s * 96 + PS s tk)) (nI (s * 96 + ln s)) (rn_w PS es) 0 ((t).2.2) a_text a_cellKind a_cellName a_tagEnd a_sectionEnd a_textLength a_slotStatus a_slotError a_openMark a_closeMark a_openTags a_valueKind a_amount a_parts a_fieldValues ((t).1) fV fL fN fB vt) (fun post => wY_render_85 post FY (nI s) (nI tk) (nI stY) g_ol g_cl g_newOl g_newCl g_tagName g_parseErr g_openCount (nI nv) (nI (t).2.1) (nI cap) (nI fn) (nI cn) a_text a_textLength a_slotStatus a_slotError b_removed b_tType b_tA b_tB b_tName b_tMatch b_tCount b_oc b_cc b_newO b_newC b_openName b_openTok b_vKind b_vNum b_vCnt b_vStr b_vItem b_vKey b_vVal ((t).1) yv cK cS cT cV cI dg) := by
  obtain ⟨hl, hF, hC, hMT⟩ := hD s hs h0
  have hmp := tk_mp hF.1
  obtain ⟨FX', rfl⟩ : ∃ FX', FX = FX' + 1 := ⟨FX - 1, by omega⟩
  obtain ⟨FY', rfl⟩ : ∃ FY', FY = FY' + 1 := ⟨FY - 1, by omega⟩
  have len2 := (hF.2.2.1.2.2.1 tk (by omega)).1
  have l00 : ∀ x, x < M 0 → (ST 0 x).length ≤ 2 := fun x hx => ((hD 0 (by omega) h00).2.1.2.2.1.2.2.1 x (by omega)).1
  have b5 : fc ≤ (ST s tk).length + 3 := by
    have a := rn_sf es fc fn cn hS
    have b := rn_nl l00 es s _ hm
    split at b <;> omega
  have bl : es.length ≤ (ST s tk).length + 3 := by
    have b := rn_len l00 es s _ hm
    split at b <;> omega
  have bn := rn_sn es fc fn cn hS
  have rt := rn_r1 hm len2
  have p1 := rn_p1 (PS := PS) (MT := MT) (kd := kd) (ct := ct) (ln := ln) es (PS s tk)
  have hA := hF.1.2.2 tk ht
  have hle : PS s (tk + 1) ≤ ln s := tk_ap hF.1 (by omega)
  have hqr : s * 96 + PS s tk < s * 96 + ln s := by omega
  have hrt : s * 96 + ln s ≤ 384 := by omega
  have n6 : TP s tk ≠ 6 := by omega
  have n7 : TP s tk ≠ 7 := by omega
  have n8 : TP s tk ≠ 8 := by omega
  have rqn := rq_go hD hs h0 ht n8 hm hq
  have hmn : rn_m M TP ST nv es s (ST s (tk + 1)) := by rw [tk_oth hF ht n6 n7 n8]; exact hm
  have pot : rn_p PS MT kd ct ln es (PS s (tk + 1)) + (PS s (tk + 1) - PS s tk) ≤ rn_p PS MT kd ct ln es (PS s tk) := by
    have a := rn_d (kd := kd) (ct := ct) es (c := PS s tk) (c' := PS s (tk + 1)) (by omega) (rq_e hD hs h0 (by omega) hmn rqn)
    have b : 1 * (PS s (tk + 1) - PS s tk) ≤ rn_r es * (PS s (tk + 1) - PS s tk) := Nat.mul_le_mul_right _ rt.1
    omega
  have hKE := hF.2.1.2.1 tk ht (by omega)
  have hKk : a_cellKind (s * 96 + PS s tk) = nI 3 := by rw [hKE.1, hk]; rfl
  have hTy : b_tType (s * 100 + tk) = nI 5 := by rw [hA.2.2.2.1, hk]
  have hNm := (hF.2.1.2.2.1 tk ht (by omega)).1
  rcases lk_vr (M := M) (TP := TP) (ST := ST) hV r1 r2 (a_cellName (s * 96 + PS s tk)) hm with hL | ⟨w, w1, w2, hL⟩
  · exact rd_go (fun post h => xs_v0r hV r1 r2 hS hm (by omega) g hL hc2 hz hqr hrt hKk hKE.2.1 post FX' stX (by omega) h) (fun post h => ys_v0r hV r1 r2 hS hm (by omega) (by omega) hNm.symm hL hs (by omega) ht hC hTy post FY' stY (by omega) h) (ih (B - 1) (by omega) es s (tk + 1) fc fn cn (t) fV fL fN fB vt yv cK cS cT cV cI dg 0 FX' FY' (stX + 1) (stY + 1) hs h0 (by omega) hmn rqn hS g hz (by omega) (by omega) (by omega) (by omega) (by omega))
  · obtain ⟨j, rfl⟩ : ∃ j, w = j + 1 := ⟨w - 1, by omega⟩
    obtain ⟨vt', vl', hx⟩ := xs_v1r (f_openMarkLength := f_openMarkLength) (f_closeMarkLength := f_closeMarkLength) (f_openCount := f_openCount) (f_compileFrom := f_compileFrom) (f_compileTo := f_compileTo) (f_valueTextLength := vl) (f_returnAt := rn_w PS es) (a_text := a_text) (a_cellKind := a_cellKind) (a_cellName := a_cellName) (a_tagEnd := a_tagEnd) (a_sectionEnd := a_sectionEnd) (a_textLength := a_textLength) (a_slotStatus := a_slotStatus) (a_slotError := a_slotError) (a_openMark := a_openMark) (a_closeMark := a_closeMark) (a_openTags := a_openTags) (a_valueKind := a_valueKind) (a_amount := a_amount) (a_parts := a_parts) (a_fieldValues := a_fieldValues) (a_frameValue := fV) (a_frameList := fL) (a_frameNext := fN) (a_frameBody := fB) (a_valueText := vt) (q := s * 96 + PS s tk) (rt := s * 96 + ln s) (t := t) hV r1 r2 hS hm (by omega) g (by omega) hL hc2 hz hqr hrt hKk hKE.2.1
    obtain ⟨dg', hy⟩ := ys_v1r (g_ol := g_ol) (g_cl := g_cl) (g_newOl := g_newOl) (g_newCl := g_newCl) (g_tagName := g_tagName) (g_parseErr := g_parseErr) (g_openCount := g_openCount) (b_text := a_text) (b_len := a_textLength) (b_stat := a_slotStatus) (b_errPos := a_slotError) (b_removed := b_removed) (b_tType := b_tType) (b_tA := b_tA) (b_tB := b_tB) (b_tName := b_tName) (b_tMatch := b_tMatch) (b_tCount := b_tCount) (b_oc := b_oc) (b_cc := b_cc) (b_newO := b_newO) (b_newC := b_newC) (b_openName := b_openName) (b_openTok := b_openTok) (b_vKind := b_vKind) (b_vNum := b_vNum) (b_vCnt := b_vCnt) (b_vStr := b_vStr) (b_vItem := b_vItem) (b_vKey := b_vKey) (b_vVal := b_vVal) (b_fv := yv) (b_cKind := cK) (b_cSlot := cS) (b_cTok := cT) (b_cVal := cV) (b_cIdx := cI) (b_dig := dg) (s := s) (tk := tk) (t := t) hV r1 r2 hS hm (by omega) (by omega) hNm.symm g hc2 hz (by omega) hL hs (by omega) ht hC hTy
    by_cases ov : (em_l cap t (tx_l false kd ct a_amount a_parts (j + 1))).2.2 = 0
    · exact rd_go (fun post h => hx post FX' stX (by omega) h) (fun post h => hy post FY' stY (by omega) (fun _ => h) (fun z => absurd ov z)) (ih (B - 1) (by omega) es s (tk + 1) fc fn cn (em_l cap t (tx_l false kd ct a_amount a_parts (j + 1))) fV fL fN fB vt' yv cK cS cT cV cI dg' vl' FX' FY' (stX + 1) (stY + 1) hs h0 (by omega) hmn rqn hS (em_gl _ g) ov (by omega) (by omega) (by omega) (by omega) (by omega))
    · obtain ⟨FX2, rfl⟩ : ∃ FX2, FX' = FX2 + 1 := ⟨FX' - 1, by omega⟩
      exact ⟨-9, (f_openMarkLength, f_closeMarkLength, f_openCount, f_compileFrom, f_compileTo, nI nv, nI cap, nI (em_l cap t (tx_l false kd ct a_amount a_parts (j + 1))).2.1, nI fc, vl', nI (s * 96 + PS s (tk + 1)), nI (s * 96 + ln s), rn_w PS es, 0, (em_l cap t (tx_l false kd ct a_amount a_parts (j + 1))).2.2, a_text, a_cellKind, a_cellName, a_tagEnd, a_sectionEnd, a_textLength, a_slotStatus, a_slotError, a_openMark, a_closeMark, a_openTags, a_valueKind, a_amount, a_parts, a_fieldValues, (em_l cap t (tx_l false kd ct a_amount a_parts (j + 1))).1, fV, fL, fN, fB, vt'), (g_ol, g_cl, g_newOl, g_newCl, g_tagName, g_parseErr, g_openCount, nI nv, nI (em_l cap t (tx_l false kd ct a_amount a_parts (j + 1))).2.1, nI cap, nI fn, nI cn, a_text, a_textLength, a_slotStatus, a_slotError, b_removed, b_tType, b_tA, b_tB, b_tName, b_tMatch, b_tCount, b_oc, b_cc, b_newO, b_newC, b_openName, b_openTok, b_vKind, b_vNum, b_vCnt, b_vStr, b_vItem, b_vKey, b_vVal, (em_l cap t (tx_l false kd ct a_amount a_parts (j + 1))).1, yv, cK, cS, cT, cV, cI, dg'), ir_mk hc1 hc2 (em_gl _ g).1 hT hV, fun post h => hx post (FX2 + 1) stX (by omega) (xs_ovf ov h), fun post h => hy post FY' stY (by omega) (fun z => absurd z ov) (fun _ => h)⟩
end LLRM
end
section
section LLRN
variable {f_openMarkLength f_closeMarkLength f_openCount f_compileFrom f_compileTo f_valueCount f_outCap f_outCount f_frameCount f_valueTextLength f_renderAt f_renderTo f_returnAt f_finished f_overflowed : Int32} {a_text a_cellKind a_cellName a_tagEnd a_sectionEnd a_textLength a_slotStatus a_slotError a_openMark a_closeMark a_openTags a_valueKind a_amount a_parts a_fieldValues a_out a_frameValue a_frameList a_frameNext a_frameBody a_valueText : Nat → Int32} {g_ol g_cl g_newOl g_newCl g_tagName g_parseErr g_openCount g_nVals g_outLen g_outCap g_fn g_cn : Int32} {b_text b_len b_stat b_errPos b_removed b_tType b_tA b_tB b_tName b_tMatch b_tCount b_oc b_cc b_newO b_newC b_openName b_openTok b_vKind b_vNum b_vCnt b_vStr b_vItem b_vKey b_vVal b_out b_fv b_cKind b_cSlot b_cTok b_cVal b_cIdx b_dig : Nat → Int32} {kk cap nv root : Nat} {kd ct ln M : Nat → Nat} {PS TP MT : Nat → Nat → Nat} {ST : Nat → Nat → List Nat}
theorem rm_6 (hc1 : 16 ≤ cap) (hc2 : cap ≤ 256) (hT : ir_T ln a_text a_textLength a_slotStatus a_cellKind a_cellName a_tagEnd a_sectionEnd) (hV : vl_R nv kd ct a_valueKind a_amount a_parts a_fieldValues b_vKind b_vNum b_vCnt b_vStr b_vItem b_vKey b_vVal) (hD : sd_P a_slotStatus ln M PS TP MT ST a_text a_cellKind a_cellName a_tagEnd a_sectionEnd b_removed b_tType b_tA b_tB b_tName b_tMatch b_tCount) (r1 : 1 ≤ root) (r2 : root ≤ nv) (h00 : a_slotStatus 0 = 0) {B : Nat} {es : List (Nat × Nat × Nat × Nat × Nat × Nat)} {s tk fc fn cn : Nat} {t : (Nat → Int32) × Nat × Int32} {fV fL fN fB vt yv cK cS cT cV cI dg : Nat → Int32} {vl : Int32} {FX FY stX stY : Nat} (ih : ∀ B', B' < B → rd_I kk cap nv root kd ct ln M PS TP MT ST f_openMarkLength f_closeMarkLength f_openCount f_compileFrom f_compileTo f_valueCount f_outCap f_outCount f_frameCount f_valueTextLength f_renderAt f_renderTo f_returnAt f_finished f_overflowed a_text a_cellKind a_cellName a_tagEnd a_sectionEnd a_textLength a_slotStatus a_slotError a_openMark a_closeMark a_openTags a_valueKind a_amount a_parts a_fieldValues a_out a_frameValue a_frameList a_frameNext a_frameBody a_valueText g_ol g_cl g_newOl g_newCl g_tagName g_parseErr g_openCount g_nVals g_outLen g_outCap g_fn g_cn b_text b_len b_stat b_errPos b_removed b_tType b_tA b_tB b_tName b_tMatch b_tCount b_oc b_cc b_newO b_newC b_openName b_openTok b_vKind b_vNum b_vCnt b_vStr b_vItem b_vKey b_vVal b_out b_fv b_cKind b_cSlot b_cTok b_cVal b_cIdx b_dig B') (hs : s < 4) (h0 : a_slotStatus s = 0) (hm : rn_m M TP ST nv es s (ST s tk)) (hq : rq_P MT es s tk) (hS : rn_s PS kd root fV fL fN fB yv cK cS cT cV cI es fc fn cn) (g : em_g cap t) (hz : t.2.2 = 0) (hB : rn_p PS MT kd ct ln es (PS s tk) ≤ B) (hFX : B < FX) (hFY : B < FY) (hsX : stX + B < 2410256) (hsY : stY + B < 4194304) (ht : tk < M s) (hk : TP s tk = 6) : rd_C kk (fun post => wX_render_30 post FX (nI stX) f_openMarkLength f_closeMarkLength f_openCount f_compileFrom f_compileTo (nI nv) (nI cap) (nI (t).2.1) (nI fc) vl (nI (s * 96 + PS s tk)) (nI (s * 96 + ln s)) (rn_w PS es) 0 ((t).2.2) a_text a_cellKind a_cellName a_tagEnd a_sectionEnd a_textLength a_slotStatus a_slotError a_openMark a_closeMark a_openTags a_valueKind a_amount a_parts a_fieldValues ((t).1) fV fL fN fB vt) (fun post => wY_render_85 post FY (nI s) (nI tk) (nI stY) g_ol g_cl g_newOl g_newCl g_tagName g_parseErr g_openCount (nI nv) (nI (t).2.1) (nI cap) (nI fn) (nI cn) a_text a_textLength a_slotStatus a_slotError b_removed b_tType b_tA b_tB b_tName b_tMatch b_tCount b_oc b_cc b_newO b_newC b_openName b_openTok b_vKind b_vNum b_vCnt b_vStr b_vItem b_vKey b_vVal ((t).1) yv cK cS cT cV cI dg) := by
  obtain ⟨hl, hF, hC, hMT⟩ := hD s hs h0
  have hmp := tk_mp hF.1
  obtain ⟨FX', rfl⟩ : ∃ FX', FX = FX' + 1 := ⟨FX - 1, by omega⟩
  obtain ⟨FY', rfl⟩ : ∃ FY', FY = FY' + 1 := ⟨FY - 1, by omega⟩
  have len2 := (hF.2.2.1.2.2.1 tk (by omega)).1
  have l00 : ∀ x, x < M 0 → (ST 0 x).length ≤ 2 := fun x hx => ((hD 0 (by omega) h00).2.1.2.2.1.2.2.1 x (by omega)).1
  have b5 : fc ≤ (ST s tk).length + 3 := by
    have a := rn_sf es fc fn cn hS
    have b := rn_nl l00 es s _ hm
    split at b <;> omega
  have bl : es.length ≤ (ST s tk).length + 3 := by
    have b := rn_len l00 es s _ hm
    split at b <;> omega
  have bn := rn_sn es fc fn cn hS
  have rt := rn_r1 hm len2
  have p1 := rn_p1 (PS := PS) (MT := MT) (kd := kd) (ct := ct) (ln := ln) es (PS s tk)
  have hA := hF.1.2.2 tk ht
  have hle : PS s (tk + 1) ≤ ln s := tk_ap hF.1 (by omega)
  have hqr : s * 96 + PS s tk < s * 96 + ln s := by omega
  have hrt : s * 96 + ln s ≤ 384 := by omega
  have hKE := hF.2.1.2.1 tk ht (by omega)
  have hKk : a_cellKind (s * 96 + PS s tk) = nI 6 := by rw [hKE.1, hk]; rfl
  have hTy : b_tType (s * 100 + tk) = nI 6 := by rw [hA.2.2.2.1, hk]
  have hNm := (hF.2.1.2.2.1 tk ht (by omega)).1
  have op := sd_op hD hs h0 ht (by omega)
  have bg := tk_beg hF ht (by omega)
  have rqs := rq_sk hD hs h0 ht (by omega) hm hq
  have hms : rn_m M TP ST nv es s (ST s (MT s tk + 1)) := by rw [op.2.2.2.2.1]; exact hm
  have pslt : PS s tk < PS s (tk + 1) := hA.1
  have psle : PS s (tk + 1) ≤ PS s (MT s tk + 1) := tk_le hF.1 (by omega) (by omega)
  have zone := rq_e hD hs h0 (show MT s tk + 1 ≤ M s from by omega) hms rqs
  have pots : rn_p PS MT kd ct ln es (PS s (MT s tk + 1)) < rn_p PS MT kd ct ln es (PS s tk) := by
    have a := rn_d (kd := kd) (ct := ct) es (c := PS s tk) (c' := PS s (MT s tk + 1)) (by omega) zone
    have b : 0 < rn_r es * (PS s (MT s tk + 1) - PS s tk) := Nat.mul_pos (by omega) (by omega)
    omega
  have sk : lk_v root kd ct a_parts a_fieldValues es (a_cellName (s * 96 + PS s tk)) = 0 ∨ (∃ j, j < nv ∧ lk_v root kd ct a_parts a_fieldValues es (a_cellName (s * 96 + PS s tk)) = nI (j + 1) ∧ ¬ tr_P kd ct (j + 1)) → rd_C kk (fun post => wX_render_30 post (FX' + 1) (nI stX) f_openMarkLength f_closeMarkLength f_openCount f_compileFrom f_compileTo (nI nv) (nI cap) (nI (t).2.1) (nI fc) vl (nI (s * 96 + PS s tk)) (nI (s * 96 + ln s)) (rn_w PS es) 0 ((t).2.2) a_text a_cellKind a_cellName a_tagEnd a_sectionEnd a_textLength a_slotStatus a_slotError a_openMark a_closeMark a_openTags a_valueKind a_amount a_parts a_fieldValues ((t).1) fV fL fN fB vt) (fun post => wY_render_85 post (FY' + 1) (nI s) (nI tk) (nI stY) g_ol g_cl g_newOl g_newCl g_tagName g_parseErr g_openCount (nI nv) (nI (t).2.1) (nI cap) (nI fn) (nI cn) a_text a_textLength a_slotStatus a_slotError b_removed b_tType b_tA b_tB b_tName b_tMatch b_tCount b_oc b_cc b_newO b_newC b_openName b_openTok b_vKind b_vNum b_vCnt b_vStr b_vItem b_vKey b_vVal ((t).1) yv cK cS cT cV cI dg) := fun hL =>
    rd_go (fun post h => xs_sec0 (by omega) hz hc2 hqr hrt hV r1 r2 hS hm (by omega) hKk op.2.2.2.2.2.2 hL h) (fun post h => ys_sec0 (by omega) hs (by omega) ht hC hV r1 r2 hS hm (by omega) (by omega) hNm.symm hTy op.2.2.2.2.2.1 hL h) (ih (B - 1) (by omega) es s (MT s tk + 1) fc fn cn t fV fL fN fB vt yv cK cS cT cV cI dg vl FX' FY' (stX + 1) (stY + 1) hs h0 (by omega) hms rqs hS g hz (by omega) (by omega) (by omega) (by omega) (by omega))
  rcases lk_vr (M := M) (TP := TP) (ST := ST) hV r1 r2 (a_cellName (s * 96 + PS s tk)) hm with hL | ⟨w0, w1, w2, hL⟩
  · exact sk (Or.inl hL)
  · obtain ⟨j, rfl⟩ : ∃ j, w0 = j + 1 := ⟨w0 - 1, by omega⟩
    by_cases htr : tr_P kd ct (j + 1)
    rotate_left
    · exact sk (Or.inr ⟨j, by omega, hL, htr⟩)
    obtain ⟨v1, v2, v3, v4, v5, v6, v7, v8, v9, v10, v11, v12, v13⟩ := hV.2 j (by omega)
    obtain ⟨w, hw1, hw2, hwx, hwy, hwn⟩ : ∃ w, 1 ≤ w ∧ w ≤ nv ∧ (kd (j + 1) = 5 → a_parts ((j + 1) * 8) = nI w) ∧ (kd (j + 1) = 5 → b_vItem (j * 4) = nI w) ∧ (kd (j + 1) ≠ 5 → w = j + 1) := by
      by_cases k5 : kd (j + 1) = 5
      · have nz := htr.2 k5
        obtain ⟨a, w, a1, a2, a3⟩ := v12 k5 0 (by omega)
        exact ⟨w, a1, a2, fun _ => a.trans a3, fun _ => a3, fun y => absurd k5 y⟩
      · exact ⟨j + 1, w1, w2, fun y => absurd y k5, fun y => absurd y k5, fun _ => rfl⟩
    have hm2 : rn_m M TP ST nv ((6, s, tk, j + 1, 0, w) :: es) s (ST s (tk + 1)) := by
      rw [bg.1]
      exact Or.inr ⟨(show (6 : Nat) = 6 ∨ (6 : Nat) = 7 from by decide), rfl, ht, hk.symm, rfl, fun _ => ⟨⟨w1, w2, by show 0 ≤ 4; omega⟩, hw1, hw2⟩, hm⟩
    have rq2 : rq_P MT ((6, s, tk, j + 1, 0, w) :: es) s (tk + 1) := Or.inr ⟨(show (6 : Nat) ≠ 9 from by decide), (by show tk < tk + 1; omega), op.1, rqs⟩
    have hS2 : rn_s PS kd root (upd fV fc (nI w)) (upd fL fc (nI (if kd (j + 1) = 5 then j + 1 else 0))) (upd fN fc (nI 1)) (upd fB fc (nI (s * 96 + PS s (tk + 1)))) (upd yv fn (nI w)) (upd cK cn (nI 6)) (upd cS cn (nI s)) (upd cT cn (nI tk)) (upd cV cn (nI (j + 1))) (upd cI cn (nI 0)) ((6, s, tk, j + 1, 0, w) :: es) (fc + 1) (fn + 1) (cn + 1) := by
      refine ⟨fc, fn, cn, rn_sc es fc fn cn hS (fun x hx => ⟨pk_un (by omega), pk_un (by omega), pk_un (by omega), pk_un (by omega)⟩) (fun x hx => pk_un (by omega)) (fun x hx => ⟨pk_un (by omega), pk_un (by omega), pk_un (by omega), pk_un (by omega), pk_un (by omega)⟩), rfl, pk_us, pk_us, pk_us, ?_⟩
      exact Or.inl ⟨rfl, rfl, rfl, pk_us, pk_us, pk_us, pk_us, pk_us, pk_us, pk_us⟩
    have pot2 : rn_p PS MT kd ct ln ((6, s, tk, j + 1, 0, w) :: es) (PS s (tk + 1)) < rn_p PS MT kd ct ln es (PS s tk)   := rn_o (6, s, tk, j + 1, 0, w) es (show (6 : Nat) ≠ 9 from by decide) pslt psle zone (by have a := v10; show (if _ then _ else _) ≤ 3; split <;> rename_i hh <;> first | (have := a (by have := hh.2; show 5 ≤ kd (j + 1); have e : kd (j + 1) = 5 := hh.2; omega); show ct (j + 1) - (0 + 1) ≤ 3; omega) | omega) rt.1
    have hi := ih (B - 1) (by omega) ((6, s, tk, j + 1, 0, w) :: es) s (tk + 1) (fc + 1) ((fn + 1)) (cn + 1) t (upd fV fc (nI w)) (upd fL fc (nI (if kd (j + 1) = 5 then j + 1 else 0))) (upd fN fc (nI 1)) (upd fB fc (nI (s * 96 + PS s (tk + 1)))) vt (upd yv fn (nI w)) (upd cK cn (nI 6)) (upd cS cn (nI s)) (upd cT cn (nI tk)) (upd cV cn (nI (j + 1))) (upd cI cn (nI 0)) dg vl FX' FY' (stX + 1) (stY + 1) hs h0 (by omega) hm2 rq2 hS2 g hz (by omega) (by omega) (by omega) (by omega) (by omega)
    exact rd_go (fun post h => xs_sec1 (by omega) hz hc2 hqr hrt hV r1 r2 hS hm (by omega) (by omega) hKk hKE.2.1 (by omega) hL htr hwx hwn h) (fun post h => ys_sec1 (by omega) hs (by omega) ht hC hV r1 r2 hS hm (by omega) (by omega) hNm.symm hTy (by omega) hL htr hwy hwn h) hi
theorem rm_7 (hc1 : 16 ≤ cap) (hc2 : cap ≤ 256) (hT : ir_T ln a_text a_textLength a_slotStatus a_cellKind a_cellName a_tagEnd a_sectionEnd) (hV : vl_R nv kd ct a_valueKind a_amount a_parts a_fieldValues b_vKind b_vNum b_vCnt b_vStr b_vItem b_vKey b_vVal) (hD : sd_P a_slotStatus ln M PS TP MT ST a_text a_cellKind a_cellName a_tagEnd a_sectionEnd b_removed b_tType b_tA b_tB b_tName b_tMatch b_tCount) (r1 : 1 ≤ root) (r2 : root ≤ nv) (h00 : a_slotStatus 0 = 0) {B : Nat} {es : List (Nat × Nat × Nat × Nat × Nat × Nat)} {s tk fc fn cn : Nat} {t : (Nat → Int32) × Nat × Int32} {fV fL fN fB vt yv cK cS cT cV cI dg : Nat → Int32} {vl : Int32} {FX FY stX stY : Nat} (ih : ∀ B', B' < B → rd_I kk cap nv root kd ct ln M PS TP MT ST f_openMarkLength f_closeMarkLength f_openCount f_compileFrom f_compileTo f_valueCount f_outCap f_outCount f_frameCount f_valueTextLength f_renderAt f_renderTo f_returnAt f_finished f_overflowed a_text a_cellKind a_cellName a_tagEnd a_sectionEnd a_textLength a_slotStatus a_slotError a_openMark a_closeMark a_openTags a_valueKind a_amount a_parts a_fieldValues a_out a_frameValue a_frameList a_frameNext a_frameBody a_valueText g_ol g_cl g_newOl g_newCl g_tagName g_parseErr g_openCount g_nVals g_outLen g_outCap g_fn g_cn b_text b_len b_stat b_errPos b_removed b_tType b_tA b_tB b_tName b_tMatch b_tCount b_oc b_cc b_newO b_newC b_openName b_openTok b_vKind b_vNum b_vCnt b_vStr b_vItem b_vKey b_vVal b_out b_fv b_cKind b_cSlot b_cTok b_cVal b_cIdx b_dig B') (hs : s < 4) (h0 : a_slotStatus s = 0) (hm : rn_m M TP ST nv es s (ST s tk)) (hq : rq_P MT es s tk) (hS : rn_s PS kd root fV fL fN fB yv cK cS cT cV cI es fc fn cn) (g : em_g cap t) (hz : t.2.2 = 0) (hB : rn_p PS MT kd ct ln es (PS s tk) ≤ B) (hFX : B < FX) (hFY : B < FY) (hsX : stX + B < 2410256) (hsY : stY + B < 4194304) (ht : tk < M s) (hk : TP s tk = 7) : rd_C kk (fun post => wX_render_30 post FX (nI stX) f_openMarkLength f_closeMarkLength f_openCount f_compileFrom f_compileTo (nI nv) (nI cap) (nI (t).2.1) (nI fc) vl (nI (s * 96 + PS s tk)) (nI (s * 96 + ln s)) (rn_w PS es) 0 ((t).2.2) a_text a_cellKind a_cellName a_tagEnd a_sectionEnd a_textLength a_slotStatus a_slotError a_openMark a_closeMark a_openTags a_valueKind a_amount a_parts a_fieldValues ((t).1) fV fL fN fB vt) (fun post => wY_render_85 post FY (nI s) (nI tk) (nI stY) g_ol g_cl g_newOl g_newCl g_tagName g_parseErr g_openCount (nI nv) (nI (t).2.1) (nI cap) (nI fn) (nI cn) a_text a_textLength a_slotStatus a_slotError b_removed b_tType b_tA b_tB b_tName b_tMatch b_tCount b_oc b_cc b_newO b_newC b_openName b_openTok b_vKind b_vNum b_vCnt b_vStr b_vItem b_vKey b_vVal ((t).1) yv cK cS cT cV cI dg) := by
  obtain ⟨hl, hF, hC, hMT⟩ := hD s hs h0
  have hmp := tk_mp hF.1
  obtain ⟨FX', rfl⟩ : ∃ FX', FX = FX' + 1 := ⟨FX - 1, by omega⟩
  obtain ⟨FY', rfl⟩ : ∃ FY', FY = FY' + 1 := ⟨FY - 1, by omega⟩
  have len2 := (hF.2.2.1.2.2.1 tk (by omega)).1
  have l00 : ∀ x, x < M 0 → (ST 0 x).length ≤ 2 := fun x hx => ((hD 0 (by omega) h00).2.1.2.2.1.2.2.1 x (by omega)).1
  have b5 : fc ≤ (ST s tk).length + 3 := by
    have a := rn_sf es fc fn cn hS
    have b := rn_nl l00 es s _ hm
    split at b <;> omega
  have bl : es.length ≤ (ST s tk).length + 3 := by
    have b := rn_len l00 es s _ hm
    split at b <;> omega
  have bn := rn_sn es fc fn cn hS
  have rt := rn_r1 hm len2
  have p1 := rn_p1 (PS := PS) (MT := MT) (kd := kd) (ct := ct) (ln := ln) es (PS s tk)
  have hA := hF.1.2.2 tk ht
  have hle : PS s (tk + 1) ≤ ln s := tk_ap hF.1 (by omega)
  have hqr : s * 96 + PS s tk < s * 96 + ln s := by omega
  have hrt : s * 96 + ln s ≤ 384 := by omega
  have hKE := hF.2.1.2.1 tk ht (by omega)
  have hKk : a_cellKind (s * 96 + PS s tk) = nI 7 := by rw [hKE.1, hk]; rfl
  have hTy : b_tType (s * 100 + tk) = nI 7 := by rw [hA.2.2.2.1, hk]
  have hNm := (hF.2.1.2.2.1 tk ht (by omega)).1
  have op := sd_op hD hs h0 ht (by omega)
  have bg := tk_beg hF ht (by omega)
  have rqs := rq_sk hD hs h0 ht (by omega) hm hq
  have hms : rn_m M TP ST nv es s (ST s (MT s tk + 1)) := by rw [op.2.2.2.2.1]; exact hm
  have pslt : PS s tk < PS s (tk + 1) := hA.1
  have psle : PS s (tk + 1) ≤ PS s (MT s tk + 1) := tk_le hF.1 (by omega) (by omega)
  have zone := rq_e hD hs h0 (show MT s tk + 1 ≤ M s from by omega) hms rqs
  have pots : rn_p PS MT kd ct ln es (PS s (MT s tk + 1)) < rn_p PS MT kd ct ln es (PS s tk) := by
    have a := rn_d (kd := kd) (ct := ct) es (c := PS s tk) (c' := PS s (MT s tk + 1)) (by omega) zone
    have b : 0 < rn_r es * (PS s (MT s tk + 1) - PS s tk) := Nat.mul_pos (by omega) (by omega)
    omega
  have pu : lk_v root kd ct a_parts a_fieldValues es (a_cellName (s * 96 + PS s tk)) = 0 ∨ (∃ j, j < nv ∧ lk_v root kd ct a_parts a_fieldValues es (a_cellName (s * 96 + PS s tk)) = nI (j + 1) ∧ ¬ tr_P kd ct (j + 1)) → rd_C kk (fun post => wX_render_30 post (FX' + 1) (nI stX) f_openMarkLength f_closeMarkLength f_openCount f_compileFrom f_compileTo (nI nv) (nI cap) (nI (t).2.1) (nI fc) vl (nI (s * 96 + PS s tk)) (nI (s * 96 + ln s)) (rn_w PS es) 0 ((t).2.2) a_text a_cellKind a_cellName a_tagEnd a_sectionEnd a_textLength a_slotStatus a_slotError a_openMark a_closeMark a_openTags a_valueKind a_amount a_parts a_fieldValues ((t).1) fV fL fN fB vt) (fun post => wY_render_85 post (FY' + 1) (nI s) (nI tk) (nI stY) g_ol g_cl g_newOl g_newCl g_tagName g_parseErr g_openCount (nI nv) (nI (t).2.1) (nI cap) (nI fn) (nI cn) a_text a_textLength a_slotStatus a_slotError b_removed b_tType b_tA b_tB b_tName b_tMatch b_tCount b_oc b_cc b_newO b_newC b_openName b_openTok b_vKind b_vNum b_vCnt b_vStr b_vItem b_vKey b_vVal ((t).1) yv cK cS cT cV cI dg) := by
    intro hL
    have tvv := rn_tv r1 r2 es s _ hm
    have hmd : ∀ L : Int32, rd_C kk (fun post => wX_render_30 post FX' (nI (stX + 1)) f_openMarkLength f_closeMarkLength f_openCount f_compileFrom f_compileTo (nI nv) (nI cap) (nI (t).2.1) (nI (fc + 1)) vl (nI (s * 96 + PS s (tk + 1))) (nI (s * 96 + ln s)) (rn_w PS es) 0 ((t).2.2) a_text a_cellKind a_cellName a_tagEnd a_sectionEnd a_textLength a_slotStatus a_slotError a_openMark a_closeMark a_openTags a_valueKind a_amount a_parts a_fieldValues ((t).1) (upd fV fc (nI (rn_t root es))) (upd fL fc 0) (upd fN fc (nI 1)) (upd fB fc (nI (s * 96 + PS s (tk + 1)))) vt) (fun post => wY_render_85 post FY' (nI s) (nI (tk + 1)) (nI (stY + 1)) g_ol g_cl g_newOl g_newCl g_tagName g_parseErr g_openCount (nI nv) (nI (t).2.1) (nI cap) (nI fn) (nI (cn + 1)) a_text a_textLength a_slotStatus a_slotError b_removed b_tType b_tA b_tB b_tName b_tMatch b_tCount b_oc b_cc b_newO b_newC b_openName b_openTok b_vKind b_vNum b_vCnt b_vStr b_vItem b_vKey b_vVal ((t).1) yv (upd cK cn (nI 7)) (upd cS cn (nI s)) (upd cT cn (nI tk)) (upd cV cn L) (upd cI cn (nI 0)) dg) := by
      intro L
      have hm2 : rn_m M TP ST nv ((7, s, tk, 0, 0, 0) :: es) s (ST s (tk + 1)) := by
        rw [bg.1]
        exact Or.inr ⟨(show (7 : Nat) = 6 ∨ (7 : Nat) = 7 from by decide), rfl, ht, hk.symm, rfl, fun y => absurd y (show ¬ (7 : Nat) = 6 from by decide), hm⟩
      have rq2 : rq_P MT ((7, s, tk, 0, 0, 0) :: es) s (tk + 1) := Or.inr ⟨(show (7 : Nat) ≠ 9 from by decide), (by show tk < tk + 1; omega), op.1, rqs⟩
      have hS2 : rn_s PS kd root (upd fV fc (nI (rn_t root es))) (upd fL fc (0)) (upd fN fc (nI 1)) (upd fB fc (nI (s * 96 + PS s (tk + 1)))) yv (upd cK cn (nI 7)) (upd cS cn (nI s)) (upd cT cn (nI tk)) (upd cV cn (L)) (upd cI cn (nI 0)) ((7, s, tk, 0, 0, 0) :: es) (fc + 1) fn (cn + 1) := by
        refine ⟨fc, fn, cn, rn_sc es fc fn cn hS (fun x hx => ⟨pk_un (by omega), pk_un (by omega), pk_un (by omega), pk_un (by omega)⟩) (fun x hx => rfl) (fun x hx => ⟨pk_un (by omega), pk_un (by omega), pk_un (by omega), pk_un (by omega), pk_un (by omega)⟩), rfl, pk_us, pk_us, pk_us, ?_⟩
        exact Or.inr (Or.inl ⟨rfl, rfl, rfl, pk_us, pk_us⟩)
      have pot2 : rn_p PS MT kd ct ln ((7, s, tk, 0, 0, 0) :: es) (PS s (tk + 1)) < rn_p PS MT kd ct ln es (PS s tk)   := rn_o (7, s, tk, 0, 0, 0) es (show (7 : Nat) ≠ 9 from by decide) pslt psle zone (Nat.zero_le 3) rt.1
      have hi := ih (B - 1) (by omega) ((7, s, tk, 0, 0, 0) :: es) s (tk + 1) (fc + 1) (fn) (cn + 1) t (upd fV fc (nI (rn_t root es))) (upd fL fc (0)) (upd fN fc (nI 1)) (upd fB fc (nI (s * 96 + PS s (tk + 1)))) vt yv (upd cK cn (nI 7)) (upd cS cn (nI s)) (upd cT cn (nI tk)) (upd cV cn (L)) (upd cI cn (nI 0)) dg vl FX' FY' (stX + 1) (stY + 1) hs h0 (by omega) hm2 rq2 hS2 g hz (by omega) (by omega) (by omega) (by omega) (by omega)
      exact hi
    obtain ⟨L, hy⟩ := ys_inv1 (g_ol := g_ol) (g_cl := g_cl) (g_newOl := g_newOl) (g_newCl := g_newCl) (g_tagName := g_tagName) (g_parseErr := g_parseErr) (g_openCount := g_openCount) (b_text := a_text) (b_len := a_textLength) (b_stat := a_slotStatus) (b_errPos := a_slotError) (b_removed := b_removed) (b_tType := b_tType) (b_tA := b_tA) (b_tB := b_tB) (b_tName := b_tName) (b_tMatch := b_tMatch) (b_tCount := b_tCount) (b_oc := b_oc) (b_cc := b_cc) (b_newO := b_newO) (b_newC := b_newC) (b_openName := b_openName) (b_openTok := b_openTok) (b_vKind := b_vKind) (b_vNum := b_vNum) (b_vCnt := b_vCnt) (b_vStr := b_vStr) (b_vItem := b_vItem) (b_vKey := b_vKey) (b_vVal := b_vVal) (b_fv := yv) (b_cKind := cK) (b_cSlot := cS) (b_cTok := cT) (b_cVal := cV) (b_cIdx := cI) (b_dig := dg) (s := s) (tk := tk) (t := t) hs (show M s ≤ 100 from by omega) ht hC hV r1 r2 hS hm (by omega) (by omega) hNm.symm hTy hL
    exact rd_go (fun post h => xs_inv1 (by omega) hz hc2 hqr hrt hV r1 r2 hS hm (by omega) (by omega) hKk hKE.2.1 hL h) (fun post h => hy post FY' stY (by omega) h) (hmd L)
  rcases lk_vr (M := M) (TP := TP) (ST := ST) hV r1 r2 (a_cellName (s * 96 + PS s tk)) hm with hL | ⟨w0, w1, w2, hL⟩
  · exact pu (Or.inl hL)
  · obtain ⟨j, rfl⟩ : ∃ j, w0 = j + 1 := ⟨w0 - 1, by omega⟩
    by_cases htr : tr_P kd ct (j + 1)
    · exact rd_go (fun post h => xs_inv0 (by omega) hz hc2 hqr hrt hV r1 r2 hS hm (by omega) hKk op.2.2.2.2.2.2 (by omega) hL htr h) (fun post h => ys_inv0 (by omega) hs (by omega) ht hC hV r1 r2 hS hm (by omega) (by omega) hNm.symm hTy op.2.2.2.2.2.1 (by omega) hL htr h) (ih (B - 1) (by omega) es s (MT s tk + 1) fc fn cn t fV fL fN fB vt yv cK cS cT cV cI dg vl FX' FY' (stX + 1) (stY + 1) hs h0 (by omega) hms rqs hS g hz (by omega) (by omega) (by omega) (by omega) (by omega))
    · exact pu (Or.inr ⟨j, by omega, hL, htr⟩)
end LLRN
end
section
section LLRO
variable {f_openMarkLength f_closeMarkLength f_openCount f_compileFrom f_compileTo f_valueCount f_outCap f_outCount f_frameCount f_valueTextLength f_renderAt f_renderTo f_returnAt f_finished f_overflowed : Int32} {a_text a_cellKind a_cellName a_tagEnd a_sectionEnd a_textLength a_slotStatus a_slotError a_openMark a_closeMark a_openTags a_valueKind a_amount a_parts a_fieldValues a_out a_frameValue a_frameList a_frameNext a_frameBody a_valueText : Nat → Int32} {g_ol g_cl g_newOl g_newCl g_tagName g_parseErr g_openCount g_nVals g_outLen g_outCap g_fn g_cn : Int32} {b_text b_len b_stat b_errPos b_removed b_tType b_tA b_tB b_tName b_tMatch b_tCount b_oc b_cc b_newO b_newC b_openName b_openTok b_vKind b_vNum b_vCnt b_vStr b_vItem b_vKey b_vVal b_out b_fv b_cKind b_cSlot b_cTok b_cVal b_cIdx b_dig : Nat → Int32} {kk cap nv root : Nat} {kd ct ln M : Nat → Nat} {PS TP MT : Nat → Nat → Nat} {ST : Nat → Nat → List Nat}
theorem rm_8 (hc1 : 16 ≤ cap) (hc2 : cap ≤ 256) (hT : ir_T ln a_text a_textLength a_slotStatus a_cellKind a_cellName a_tagEnd a_sectionEnd) (hV : vl_R nv kd ct a_valueKind a_amount a_parts a_fieldValues b_vKind b_vNum b_vCnt b_vStr b_vItem b_vKey b_vVal) (hD : sd_P a_slotStatus ln M PS TP MT ST a_text a_cellKind a_cellName a_tagEnd a_sectionEnd b_removed b_tType b_tA b_tB b_tName b_tMatch b_tCount) (r1 : 1 ≤ root) (r2 : root ≤ nv) (h00 : a_slotStatus 0 = 0) {B : Nat} {es : List (Nat × Nat × Nat × Nat × Nat × Nat)} {s tk fc fn cn : Nat} {t : (Nat → Int32) × Nat × Int32} {fV fL fN fB vt yv cK cS cT cV cI dg : Nat → Int32} {vl : Int32} {FX FY stX stY : Nat} (ih : ∀ B', B' < B → rd_I kk cap nv root kd ct ln M PS TP MT ST f_openMarkLength f_closeMarkLength f_openCount f_compileFrom f_compileTo f_valueCount f_outCap f_outCount f_frameCount f_valueTextLength f_renderAt f_renderTo f_returnAt f_finished f_overflowed a_text a_cellKind a_cellName a_tagEnd a_sectionEnd a_textLength a_slotStatus a_slotError a_openMark a_closeMark a_openTags a_valueKind a_amount a_parts a_fieldValues a_out a_frameValue a_frameList a_frameNext a_frameBody a_valueText g_ol g_cl g_newOl g_newCl g_tagName g_parseErr g_openCount g_nVals g_outLen g_outCap g_fn g_cn b_text b_len b_stat b_errPos b_removed b_tType b_tA b_tB b_tName b_tMatch b_tCount b_oc b_cc b_newO b_newC b_openName b_openTok b_vKind b_vNum b_vCnt b_vStr b_vItem b_vKey b_vVal b_out b_fv b_cKind b_cSlot b_cTok b_cVal b_cIdx b_dig B') (hs : s < 4) (h0 : a_slotStatus s = 0) (hm : rn_m M TP ST nv es s (ST s tk)) (hq : rq_P MT es s tk) (hS : rn_s PS kd root fV fL fN fB yv cK cS cT cV cI es fc fn cn) (g : em_g cap t) (hz : t.2.2 = 0) (hB : rn_p PS MT kd ct ln es (PS s tk) ≤ B) (hFX : B < FX) (hFY : B < FY) (hsX : stX + B < 2410256) (hsY : stY + B < 4194304) (ht : tk < M s) (hk : TP s tk = 8) : rd_C kk (fun post => wX_render_30 post FX (nI stX) f_openMarkLength f_closeMarkLength f_openCount f_compileFrom f_compileTo (nI nv) (nI cap) (nI (t).2.1) (nI fc) vl (nI (s * 96 + PS s tk)) (nI (s * 96 + ln s)) (rn_w PS es) 0 ((t).2.2) a_text a_cellKind a_cellName a_tagEnd a_sectionEnd a_textLength a_slotStatus a_slotError a_openMark a_closeMark a_openTags a_valueKind a_amount a_parts a_fieldValues ((t).1) fV fL fN fB vt) (fun post => wY_render_85 post FY (nI s) (nI tk) (nI stY) g_ol g_cl g_newOl g_newCl g_tagName g_parseErr g_openCount (nI nv) (nI (t).2.1) (nI cap) (nI fn) (nI cn) a_text a_textLength a_slotStatus a_slotError b_removed b_tType b_tA b_tB b_tName b_tMatch b_tCount b_oc b_cc b_newO b_newC b_openName b_openTok b_vKind b_vNum b_vCnt b_vStr b_vItem b_vKey b_vVal ((t).1) yv cK cS cT cV cI dg) := by
  obtain ⟨hl, hF, hC, hMT⟩ := hD s hs h0
  have hmp := tk_mp hF.1
  obtain ⟨FX', rfl⟩ : ∃ FX', FX = FX' + 1 := ⟨FX - 1, by omega⟩
  obtain ⟨FY', rfl⟩ : ∃ FY', FY = FY' + 1 := ⟨FY - 1, by omega⟩
  have len2 := (hF.2.2.1.2.2.1 tk (by omega)).1
  have l00 : ∀ x, x < M 0 → (ST 0 x).length ≤ 2 := fun x hx => ((hD 0 (by omega) h00).2.1.2.2.1.2.2.1 x (by omega)).1
  have b5 : fc ≤ (ST s tk).length + 3 := by
    have a := rn_sf es fc fn cn hS
    have b := rn_nl l00 es s _ hm
    split at b <;> omega
  have bl : es.length ≤ (ST s tk).length + 3 := by
    have b := rn_len l00 es s _ hm
    split at b <;> omega
  have bn := rn_sn es fc fn cn hS
  have rt := rn_r1 hm len2
  have p1 := rn_p1 (PS := PS) (MT := MT) (kd := kd) (ct := ct) (ln := ln) es (PS s tk)
  have hA := hF.1.2.2 tk ht
  have hle : PS s (tk + 1) ≤ ln s := tk_ap hF.1 (by omega)
  have hqr : s * 96 + PS s tk < s * 96 + ln s := by omega
  have hrt : s * 96 + ln s ≤ 384 := by omega
  have hKE := hF.2.1.2.1 tk ht (by omega)
  have hKk : a_cellKind (s * 96 + PS s tk) = nI 8 := by rw [hKE.1, hk]; rfl
  have hTy : b_tType (s * 100 + tk) = nI 8 := by rw [hA.2.2.2.1, hk]
  obtain ⟨w0, c1, c2, c3, c4, c5⟩ := sd_cl hD hs h0 ht hk
  have psl : PS s tk < PS s (tk + 1) := hA.1
  cases es with
  | nil => rw [hm.2] at c2; exact absurd c2 (by simp)
  | cons e es =>
    have hm0 := hm
    have hq0 := hq
    rcases hm with ⟨_, _, _, g4, _⟩ | ⟨g1, g2, g3, g4, g5, g6, g7⟩
    · rw [g4] at c2; exact absurd c2 (by simp)
    have n9 : ¬ e.1 = 9 := by omega
    have etok : e.2.2.1 = w0 := by
      rw [c2] at g5
      exact (List.cons.inj g5).1.symm
    have hwn : rn_w PS (e :: es) = rn_w PS es := by simp only [rn_w, if_neg n9]
    obtain ⟨fc', fn', cn', s1, s2, s3, s4, s5, s6⟩ := hS
    have bn' := rn_sn es fc' fn' cn' s1
    have ez : rn_z PS MT e = PS s (tk + 1) := by
      unfold rn_z
      rw [if_neg n9, g2, etok, c4]
    have rqe : rq_P MT es s (tk + 1) := by
      rcases hq with ⟨a, _⟩ | ⟨a, b, c, d⟩
      · exact absurd a n9
      · rw [etok, c4] at d; exact d
    have hme : rn_m M TP ST nv es s (ST s (tk + 1)) := by
      rw [c5, ← etok]; exact g7
    have potp : rn_p PS MT kd ct ln es (PS s (tk + 1)) < rn_p PS MT kd ct ln (e :: es) (PS s tk) := by
      have := rn_cl (kd := kd) (ct := ct) (ln := ln) (PS := PS) (MT := MT) e es (c := PS s tk) n9 (by rw [ez]; exact psl) rt.1
      rw [ez] at this
      exact this
    rcases s6 with ⟨k6, a1, a2, a3, a4, a5, a6, a7, a8, a9⟩ | ⟨k7, a1, a2, a3, a4⟩ | ⟨k9, _⟩
    · obtain ⟨⟨v1, v2, v3⟩, v4, v5⟩ := g6 k6
      obtain ⟨j, hj⟩ : ∃ j, e.2.2.2.1 = j + 1 := ⟨e.2.2.2.1 - 1, by omega⟩
      rw [hj] at a3 a7 v1 v2
      have hjn : j < nv := by omega
      obtain ⟨u1, u2, u3, u4, u5, u6, u7, u8, u9, u10, u11, u12, u13⟩ := hV.2 j hjn
      have hnv := hV.1
      have popi := ih (B - 1) (by omega) es s (tk + 1) fc' fn' cn' t fV fL fN fB vt yv cK cS cT cV cI dg vl FX' FY' (stX + 1) (stY + 1) hs h0 (by omega) hme rqe s1 g hz (by omega) (by omega) (by omega) (by omega) (by omega)
      subst a1 a2 s2
      by_cases more : kd (j + 1) = 5 ∧ e.2.2.2.2.1 + 1 < ct (j + 1)
      · obtain ⟨k5, hlt⟩ := more
        have c4' := u10 (by omega)
        obtain ⟨b1, w, b2, b3, b4⟩ := u12 k5 (e.2.2.2.2.1 + 1) hlt
        have hm2 : rn_m M TP ST nv ((6, s, w0, j + 1, e.2.2.2.2.1 + 1, w) :: es) s (ST s (w0 + 1)) := by
          have bgw := tk_beg hF (show w0 < M s from by omega) c3
          rw [bgw.1]
          refine Or.inr ⟨Or.inl rfl, rfl, by show w0 < M s; omega, ?_, rfl, fun _ => ⟨⟨by show 1 ≤ j + 1; omega, by show j + 1 ≤ nv; omega, by show e.2.2.2.2.1 + 1 ≤ 4; omega⟩, b2, b3⟩, by rw [← etok]; exact g7⟩
          show 6 = TP s w0
          rw [← etok, ← g4, k6]
        have rq2 : rq_P MT ((6, s, w0, j + 1, e.2.2.2.2.1 + 1, w) :: es) s (w0 + 1) := Or.inr ⟨(show (6 : Nat) ≠ 9 from by decide), by show w0 < w0 + 1; omega, by show w0 + 1 ≤ MT s w0; omega, by show rq_P MT es s (MT s w0 + 1); rw [c4]; exact rqe⟩
        have hS2 : rn_s PS kd root (upd fV fc' (nI w)) fL (upd fN fc' (nI (e.2.2.2.2.1 + 1 + 1))) fB (upd yv fn' (nI w)) cK cS cT cV (upd cI cn' (nI (e.2.2.2.2.1 + 1))) ((6, s, w0, j + 1, e.2.2.2.2.1 + 1, w) :: es) (fc' + 1) (fn' + 1) (cn' + 1) := by
          refine ⟨fc', fn', cn', rn_sc es fc' fn' cn' s1 (fun x hx => ⟨pk_un (by omega), rfl, pk_un (by omega), rfl⟩) (fun x hx => pk_un (by omega)) (fun x hx => ⟨rfl, rfl, rfl, rfl, pk_un (by omega)⟩), rfl, by rw [s3, k6], by rw [s4, g2], by rw [s5, etok], Or.inl ⟨rfl, rfl, rfl, a3, pk_us, pk_us, pk_us, a7, pk_us, ?_⟩⟩
          rw [a9, g2, etok]
        have pot2 : rn_p PS MT kd ct ln ((6, s, w0, j + 1, e.2.2.2.2.1 + 1, w) :: es) (PS s (w0 + 1)) < rn_p PS MT kd ct ln (e :: es) (PS s tk) := by
          refine rn_cn e (6, s, w0, j + 1, e.2.2.2.2.1 + 1, w) es n9 (show (6 : Nat) ≠ 9 from by decide) ?_ ?_ ?_ (by rw [ez]; exact psl) rt.1
          · rw [ez]; show PS s (MT s w0 + 1) = _; rw [c4]
          · show PS s (w0 + 1) = PS e.2.1 (e.2.2.1 + 1); rw [g2, etok]
          · have x1 : rn_k kd ct e = ct (j + 1) - (e.2.2.2.2.1 + 1) := by unfold rn_k; rw [hj, if_pos ⟨k6, k5⟩]
            have x2 : rn_k kd ct (6, s, w0, j + 1, e.2.2.2.2.1 + 1, w) = ct (j + 1) - (e.2.2.2.2.1 + 1 + 1) := by unfold rn_k; exact if_pos ⟨rfl, k5⟩
            rw [x1, x2]; omega
        have hi := ih (B - 1) (by omega) ((6, s, w0, j + 1, e.2.2.2.2.1 + 1, w) :: es) s (w0 + 1) (fc' + 1) (fn' + 1) (cn' + 1) t (upd fV fc' (nI w)) fL (upd fN fc' (nI (e.2.2.2.2.1 + 1 + 1))) fB vt (upd yv fn' (nI w)) cK cS cT cV (upd cI cn' (nI (e.2.2.2.2.1 + 1))) dg vl FX' FY' (stX + 1) (stY + 1) hs h0 (by omega) hm2 rq2 hS2 g hz (by omega) (by omega) (by omega) (by omega) (by omega)
        have hwn2 : rn_w PS ((6, s, w0, j + 1, e.2.2.2.2.1 + 1, w) :: es) = rn_w PS (e :: es) := by rw [hwn]; exact if_neg (show ¬ (6 : Nat) = 9 from by decide)
        rw [hwn2] at hi
        rw [if_pos k5] at a7
        refine rd_go (fun post h => xs_next (l := j + 1) (x := e.2.2.2.2.1 + 1) (y := ct (j + 1)) (w := w) (b := s * 96 + PS s (w0 + 1)) (by omega) hz hc2 hqr hrt (by omega) (by omega) hKk hKE.2.1 (by omega) (by omega) hlt u3 a7 a8 (u8 (by omega)) (b1.trans b4) (by rw [Nat.add_sub_cancel, a9, g2, etok]) h) (fun post h => ys_cl6 (x := e.2.2.2.2.1) (by omega) hs (by omega) ht hC hTy hV (by omega) (by omega) (by omega) (by omega) (by rw [Nat.add_sub_cancel, s3, k6]) hjn (by omega) a3 a4 (fun y => by have := y k5; omega) (fun _ _ => ⟨w, w0, b4, by rw [Nat.add_sub_cancel, s5, etok], h⟩)) hi
      · rw [hwn]
        refine rd_go (fun post h => xs_pop (l := if kd (j + 1) = 5 then j + 1 else 0) (x := e.2.2.2.2.1 + 1) (by omega) hz hc2 hqr hrt (by omega) (by omega) hnv hKk hKE.2.1 (by split <;> omega) a7 ?_ h) (fun post h => ys_cl6 (x := e.2.2.2.2.1) (by omega) hs (by omega) ht hC hTy hV (by omega) (by omega) (by omega) (by omega) (by rw [Nat.add_sub_cancel, s3, k6]) hjn (by omega) a3 a4 (fun _ => h) (fun y z => absurd ⟨y, z⟩ more)) popi
        by_cases k5 : kd (j + 1) = 5
        · rw [if_pos k5]
          refine Or.inr ⟨ct (j + 1), ?_, by omega, a8, u8 (by omega)⟩
          have : ¬ e.2.2.2.2.1 + 1 < ct (j + 1) := fun z => more ⟨k5, z⟩
          omega
        · rw [if_neg k5]; exact Or.inl rfl
    · have popi := ih (B - 1) (by omega) es s (tk + 1) fc' fn' cn' t fV fL fN fB vt yv cK cS cT cV cI dg vl FX' FY' (stX + 1) (stY + 1) hs h0 (by omega) hme rqe s1 g hz (by omega) (by omega) (by omega) (by omega) (by omega)
      subst a1 a2 s2
      rw [hwn]
      exact rd_go (fun post h => xs_pop (l := 0) (x := 0) (by omega) hz hc2 hqr hrt (by omega) (by omega) hV.1 hKk hKE.2.1 (by omega) a4 (Or.inl rfl) h) (fun post h => ys_cl7 (by omega) hs (by omega) ht hC hTy (by omega) (by omega) (by rw [Nat.add_sub_cancel, s3, k7]) h) popi
    · exact absurd k9 n9
theorem nm_d {c : Int32} (h1 : 49 ≤ c) (h2 : c ≤ 51) : ∃ d : Nat, 1 ≤ d ∧ d ≤ 3 ∧ c - 48 = nI d := by
  have h0 : ¬ c < 0 := fun z => absurd (Int32.lt_of_le_of_lt h1 z) (by decide)
  obtain ⟨i, hi, rfl⟩ := nI_of h0
  have a := (nI_leI (a := 49) (by omega) hi).mp h1
  have b := (nI_leI (b := 51) hi (by omega)).mp h2
  exact ⟨i - 48, by omega, by omega, pk_sub (b := 48) (by omega)⟩
theorem rm_9 (hc1 : 16 ≤ cap) (hc2 : cap ≤ 256) (hT : ir_T ln a_text a_textLength a_slotStatus a_cellKind a_cellName a_tagEnd a_sectionEnd) (hV : vl_R nv kd ct a_valueKind a_amount a_parts a_fieldValues b_vKind b_vNum b_vCnt b_vStr b_vItem b_vKey b_vVal) (hD : sd_P a_slotStatus ln M PS TP MT ST a_text a_cellKind a_cellName a_tagEnd a_sectionEnd b_removed b_tType b_tA b_tB b_tName b_tMatch b_tCount) (r1 : 1 ≤ root) (r2 : root ≤ nv) (h00 : a_slotStatus 0 = 0) {B : Nat} {es : List (Nat × Nat × Nat × Nat × Nat × Nat)} {s tk fc fn cn : Nat} {t : (Nat → Int32) × Nat × Int32} {fV fL fN fB vt yv cK cS cT cV cI dg : Nat → Int32} {vl : Int32} {FX FY stX stY : Nat} (ih : ∀ B', B' < B → rd_I kk cap nv root kd ct ln M PS TP MT ST f_openMarkLength f_closeMarkLength f_openCount f_compileFrom f_compileTo f_valueCount f_outCap f_outCount f_frameCount f_valueTextLength f_renderAt f_renderTo f_returnAt f_finished f_overflowed a_text a_cellKind a_cellName a_tagEnd a_sectionEnd a_textLength a_slotStatus a_slotError a_openMark a_closeMark a_openTags a_valueKind a_amount a_parts a_fieldValues a_out a_frameValue a_frameList a_frameNext a_frameBody a_valueText g_ol g_cl g_newOl g_newCl g_tagName g_parseErr g_openCount g_nVals g_outLen g_outCap g_fn g_cn b_text b_len b_stat b_errPos b_removed b_tType b_tA b_tB b_tName b_tMatch b_tCount b_oc b_cc b_newO b_newC b_openName b_openTok b_vKind b_vNum b_vCnt b_vStr b_vItem b_vKey b_vVal b_out b_fv b_cKind b_cSlot b_cTok b_cVal b_cIdx b_dig B') (hs : s < 4) (h0 : a_slotStatus s = 0) (hm : rn_m M TP ST nv es s (ST s tk)) (hq : rq_P MT es s tk) (hS : rn_s PS kd root fV fL fN fB yv cK cS cT cV cI es fc fn cn) (g : em_g cap t) (hz : t.2.2 = 0) (hB : rn_p PS MT kd ct ln es (PS s tk) ≤ B) (hFX : B < FX) (hFY : B < FY) (hsX : stX + B < 2410256) (hsY : stY + B < 4194304) (ht : tk < M s) (hk : TP s tk = 9) : rd_C kk (fun post => wX_render_30 post FX (nI stX) f_openMarkLength f_closeMarkLength f_openCount f_compileFrom f_compileTo (nI nv) (nI cap) (nI (t).2.1) (nI fc) vl (nI (s * 96 + PS s tk)) (nI (s * 96 + ln s)) (rn_w PS es) 0 ((t).2.2) a_text a_cellKind a_cellName a_tagEnd a_sectionEnd a_textLength a_slotStatus a_slotError a_openMark a_closeMark a_openTags a_valueKind a_amount a_parts a_fieldValues ((t).1) fV fL fN fB vt) (fun post => wY_render_85 post FY (nI s) (nI tk) (nI stY) g_ol g_cl g_newOl g_newCl g_tagName g_parseErr g_openCount (nI nv) (nI (t).2.1) (nI cap) (nI fn) (nI cn) a_text a_textLength a_slotStatus a_slotError b_removed b_tType b_tA b_tB b_tName b_tMatch b_tCount b_oc b_cc b_newO b_newC b_openName b_openTok b_vKind b_vNum b_vCnt b_vStr b_vItem b_vKey b_vVal ((t).1) yv cK cS cT cV cI dg) := by
  obtain ⟨hl, hF, hC, hMT⟩ := hD s hs h0
  have hmp := tk_mp hF.1
  obtain ⟨FX', rfl⟩ : ∃ FX', FX = FX' + 1 := ⟨FX - 1, by omega⟩
  obtain ⟨FY', rfl⟩ : ∃ FY', FY = FY' + 1 := ⟨FY - 1, by omega⟩
  have len2 := (hF.2.2.1.2.2.1 tk (by omega)).1
  have l00 : ∀ x, x < M 0 → (ST 0 x).length ≤ 2 := fun x hx => ((hD 0 (by omega) h00).2.1.2.2.1.2.2.1 x (by omega)).1
  have b5 : fc ≤ (ST s tk).length + 3 := by
    have a := rn_sf es fc fn cn hS
    have b := rn_nl l00 es s _ hm
    split at b <;> omega
  have bl : es.length ≤ (ST s tk).length + 3 := by
    have b := rn_len l00 es s _ hm
    split at b <;> omega
  have bn := rn_sn es fc fn cn hS
  have rt := rn_r1 hm len2
  have p1 := rn_p1 (PS := PS) (MT := MT) (kd := kd) (ct := ct) (ln := ln) es (PS s tk)
  have hA := hF.1.2.2 tk ht
  have hle : PS s (tk + 1) ≤ ln s := tk_ap hF.1 (by omega)
  have hqr : s * 96 + PS s tk < s * 96 + ln s := by omega
  have hrt : s * 96 + ln s ≤ 384 := by omega
  have n6 : TP s tk ≠ 6 := by omega
  have n7 : TP s tk ≠ 7 := by omega
  have n8 : TP s tk ≠ 8 := by omega
  have rqn := rq_go hD hs h0 ht n8 hm hq
  have hmn : rn_m M TP ST nv es s (ST s (tk + 1)) := by rw [tk_oth hF ht n6 n7 n8]; exact hm
  have pot : rn_p PS MT kd ct ln es (PS s (tk + 1)) + (PS s (tk + 1) - PS s tk) ≤ rn_p PS MT kd ct ln es (PS s tk) := by
    have a := rn_d (kd := kd) (ct := ct) es (c := PS s tk) (c' := PS s (tk + 1)) (by omega) (rq_e hD hs h0 (by omega) hmn rqn)
    have b : 1 * (PS s (tk + 1) - PS s tk) ≤ rn_r es * (PS s (tk + 1) - PS s tk) := Nat.mul_le_mul_right _ rt.1
    omega
  have hKE := hF.2.1.2.1 tk ht (by omega)
  have hKk : a_cellKind (s * 96 + PS s tk) = nI 9 := by rw [hKE.1, hk]; rfl
  have hTy : b_tType (s * 100 + tk) = nI 9 := by rw [hA.2.2.2.1, hk]
  have hNm := hF.2.1.2.2.1 tk ht (by omega)
  have s0 : s = 0 := by
    apply Classical.byContradiction
    intro y
    exact hF.2.2.2.2 y tk ht hk
  subst s0
  obtain ⟨d, d1, d3, hd⟩ := nm_d (hNm.2.1 hk).1 (hNm.2.1 hk).2
  have hdY : b_tName (0 * 100 + tk) - 48 = nI d := by rw [← hNm.1]; exact hd
  by_cases hst : a_slotStatus d = 0
  · obtain ⟨hl', hF', hC', _⟩ := hD d (by omega) hst
    have hm2 : rn_m M TP ST nv ((9, 0, tk, d, 0, 0) :: es) d (ST d 0) := Or.inl ⟨rfl, by omega, rfl, hF'.2.2.1.1, rfl, ht, hk, hm⟩
    have rq2 : rq_P MT ((9, 0, tk, d, 0, 0) :: es) d 0 := Or.inl ⟨rfl, rqn⟩
    have hS2 : rn_s PS kd root fV fL fN fB yv (upd cK cn (nI 9)) (upd cS cn (nI 0)) (upd cT cn (nI tk)) cV cI ((9, 0, tk, d, 0, 0) :: es) fc fn (cn + 1) := ⟨fc, fn, cn, rn_sc es fc fn cn hS (fun x hx => ⟨rfl, rfl, rfl, rfl⟩) (fun x hx => rfl) (fun x hx => ⟨pk_un (by omega), pk_un (by omega), pk_un (by omega), rfl, rfl⟩), rfl, pk_us, pk_us, pk_us, Or.inr (Or.inr ⟨rfl, rfl, rfl⟩)⟩
    have psl : PS 0 tk < PS 0 (tk + 1) := hA.1
    have pot2 : rn_p PS MT kd ct ln ((9, 0, tk, d, 0, 0) :: es) (PS d 0) < rn_p PS MT kd ct ln es (PS 0 tk) := by
      have a := rn_d (kd := kd) (ct := ct) es (c := PS 0 tk) (c' := PS 0 (tk + 1)) (by omega) (rq_e hD hs h0 (by omega) hmn rqn)
      have b : 1538 * 1 ≤ rn_r es * (PS 0 (tk + 1) - PS 0 tk) := Nat.mul_le_mul (rt.2 rfl) (by omega)
      show 16 * (ln d - PS d 0) + 1 + rn_p PS MT kd ct ln es (PS 0 (tk + 1)) < _
      omega
    have hi := ih (B - 1) (by omega) ((9, 0, tk, d, 0, 0) :: es) d 0 fc fn (cn + 1) t fV fL fN fB vt yv (upd cK cn (nI 9)) (upd cS cn (nI 0)) (upd cT cn (nI tk)) cV cI dg vl FX' FY' (stX + 1) (stY + 1) (by omega) hst (by omega) hm2 rq2 hS2 g hz (by omega) (by omega) (by omega) (by omega) (by omega)
    rw [hF'.1.1, Nat.add_zero] at hi
    have hE0 : a_tagEnd (0 * 96 + PS 0 tk) = nI (PS 0 (tk + 1)) := by rw [hKE.2.1]; exact congrArg nI (by omega)
    exact rd_go (fun post h => xs_inc1 (by omega) hz hc2 hqr hrt hKk hE0 (show d < 4 from by omega) hd hst (hT.1 d (by omega)).2 h) (fun post h => ys_inc1 (by omega) hs (by omega) ht hC hTy (by omega) d1 d3 hdY hst h) hi
  · exact rd_go (fun post h => xs_inc0 (by omega) hz hc2 hqr hrt hKk hKE.2.1 (show d < 4 from by omega) hd hst h) (fun post h => ys_inc0 (by omega) hs (by omega) ht hC hTy d1 d3 hdY hst h) (ih (B - 1) (by omega) es 0 (tk + 1) fc fn cn (t) fV fL fN fB vt yv cK cS cT cV cI dg vl FX' FY' (stX + 1) (stY + 1) hs h0 (by omega) hmn rqn hS g hz (by omega) (by omega) (by omega) (by omega) (by omega))
theorem rm_0 (hc1 : 16 ≤ cap) (hc2 : cap ≤ 256) (hT : ir_T ln a_text a_textLength a_slotStatus a_cellKind a_cellName a_tagEnd a_sectionEnd) (hV : vl_R nv kd ct a_valueKind a_amount a_parts a_fieldValues b_vKind b_vNum b_vCnt b_vStr b_vItem b_vKey b_vVal) (hD : sd_P a_slotStatus ln M PS TP MT ST a_text a_cellKind a_cellName a_tagEnd a_sectionEnd b_removed b_tType b_tA b_tB b_tName b_tMatch b_tCount) (r1 : 1 ≤ root) (r2 : root ≤ nv) (h00 : a_slotStatus 0 = 0) {B : Nat} {es : List (Nat × Nat × Nat × Nat × Nat × Nat)} {s tk fc fn cn : Nat} {t : (Nat → Int32) × Nat × Int32} {fV fL fN fB vt yv cK cS cT cV cI dg : Nat → Int32} {vl : Int32} {FX FY stX stY : Nat} (ih : ∀ B', B' < B → rd_I kk cap nv root kd ct ln M PS TP MT ST f_openMarkLength f_closeMarkLength f_openCount f_compileFrom f_compileTo f_valueCount f_outCap f_outCount f_frameCount f_valueTextLength f_renderAt f_renderTo f_returnAt f_finished f_overflowed a_text a_cellKind a_cellName a_tagEnd a_sectionEnd a_textLength a_slotStatus a_slotError a_openMark a_closeMark a_openTags a_valueKind a_amount a_parts a_fieldValues a_out a_frameValue a_frameList a_frameNext a_frameBody a_valueText g_ol g_cl g_newOl g_newCl g_tagName g_parseErr g_openCount g_nVals g_outLen g_outCap g_fn g_cn b_text b_len b_stat b_errPos b_removed b_tType b_tA b_tB b_tName b_tMatch b_tCount b_oc b_cc b_newO b_newC b_openName b_openTok b_vKind b_vNum b_vCnt b_vStr b_vItem b_vKey b_vVal b_out b_fv b_cKind b_cSlot b_cTok b_cVal b_cIdx b_dig B') (hs : s < 4) (h0 : a_slotStatus s = 0) (hm : rn_m M TP ST nv es s (ST s tk)) (hq : rq_P MT es s tk) (hS : rn_s PS kd root fV fL fN fB yv cK cS cT cV cI es fc fn cn) (g : em_g cap t) (hz : t.2.2 = 0) (hB : rn_p PS MT kd ct ln es (PS s tk) ≤ B) (hFX : B < FX) (hFY : B < FY) (hsX : stX + B < 2410256) (hsY : stY + B < 4194304) (ht : tk = M s) : rd_C kk (fun post => wX_render_30 post FX (nI stX) f_openMarkLength f_closeMarkLength f_openCount f_compileFrom f_compileTo (nI nv) (nI cap) (nI (t).2.1) (nI fc) vl (nI (s * 96 + PS s tk)) (nI (s * 96 + ln s)) (rn_w PS es) 0 ((t).2.2) a_text a_cellKind a_cellName a_tagEnd a_sectionEnd a_textLength a_slotStatus a_slotError a_openMark a_closeMark a_openTags a_valueKind a_amount a_parts a_fieldValues ((t).1) fV fL fN fB vt) (fun post => wY_render_85 post FY (nI s) (nI tk) (nI stY) g_ol g_cl g_newOl g_newCl g_tagName g_parseErr g_openCount (nI nv) (nI (t).2.1) (nI cap) (nI fn) (nI cn) a_text a_textLength a_slotStatus a_slotError b_removed b_tType b_tA b_tB b_tName b_tMatch b_tCount b_oc b_cc b_newO b_newC b_openName b_openTok b_vKind b_vNum b_vCnt b_vStr b_vItem b_vKey b_vVal ((t).1) yv cK cS cT cV cI dg) := by
  subst ht
  obtain ⟨hl, hF, hC, hMT⟩ := hD s hs h0
  have hmp := tk_mp hF.1
  obtain ⟨FX', rfl⟩ : ∃ FX', FX = FX' + 1 := ⟨FX - 1, by omega⟩
  obtain ⟨FY', rfl⟩ : ∃ FY', FY = FY' + 1 := ⟨FY - 1, by omega⟩
  have len2 := (hF.2.2.1.2.2.1 (M s) (by omega)).1
  have l00 : ∀ x, x < M 0 → (ST 0 x).length ≤ 2 := fun x hx => ((hD 0 (by omega) h00).2.1.2.2.1.2.2.1 x (by omega)).1
  have b5 : fc ≤ (ST s (M s)).length + 3 := by
    have a := rn_sf es fc fn cn hS
    have b := rn_nl l00 es s _ hm
    split at b <;> omega
  have bl : es.length ≤ (ST s (M s)).length + 3 := by
    have b := rn_len l00 es s _ hm
    split at b <;> omega
  have bn := rn_sn es fc fn cn hS
  have rt := rn_r1 hm len2
  have p1 := rn_p1 (PS := PS) (MT := MT) (kd := kd) (ct := ct) (ln := ln) es (PS s (M s))
  have eps : PS s (M s) = ln s := hF.1.2.1
  have est : ST s (M s) = [] := hF.2.2.2.1
  cases es with
  | nil =>
    have s0 := hm.1
    subst s0
    obtain ⟨a1, a2, a3, a4, a5⟩ := hS
    obtain ⟨FX2, rfl⟩ : ∃ FX2, FX' = FX2 + 1 := ⟨FX' - 1, by omega⟩
    exact ⟨0, (f_openMarkLength, f_closeMarkLength, f_openCount, f_compileFrom, f_compileTo, nI nv, nI cap, nI t.2.1, nI fc, vl, nI (0 * 96 + PS 0 (M 0)), nI (0 * 96 + ln 0), -1, 1, t.2.2, a_text, a_cellKind, a_cellName, a_tagEnd, a_sectionEnd, a_textLength, a_slotStatus, a_slotError, a_openMark, a_closeMark, a_openTags, a_valueKind, a_amount, a_parts, a_fieldValues, t.1, fV, fL, fN, fB, vt), (g_ol, g_cl, g_newOl, g_newCl, g_tagName, g_parseErr, g_openCount, nI nv, nI (t).2.1, nI cap, nI fn, nI cn, a_text, a_textLength, a_slotStatus, a_slotError, b_removed, b_tType, b_tA, b_tB, b_tName, b_tMatch, b_tCount, b_oc, b_cc, b_newO, b_newC, b_openName, b_openTok, b_vKind, b_vNum, b_vCnt, b_vStr, b_vItem, b_vKey, b_vVal, (t).1, yv, cK, cS, cT, cV, cI, dg), ir_mk hc1 hc2 g.1 hT hV, fun post h => xs_fin (by omega) hz (by omega) (by omega) h, fun post h => ys_fin (by omega) hs (by omega) hC a3 h⟩
  | cons e es =>
    rcases hm with ⟨g1, g2, g3, g4, g5, g6, g7, g8⟩ | ⟨g1, g2, g3, g4, g5, g6', g7⟩
    rotate_left
    · rw [est] at g5; exact absurd g5 (by simp)
    obtain ⟨fc', fn', cn', s1, s2, s3, s4, s5, s6⟩ := hS
    rcases s6 with ⟨k6, _⟩ | ⟨k7, _⟩ | ⟨k9, a1, a2⟩
    · omega
    · omega
    subst a1 a2 s2
    obtain ⟨hl0, hF0, hC0, _⟩ := hD 0 (by omega) h00
    have rq2 : rq_P MT es 0 (e.2.2.1 + 1) := by
      rcases hq with ⟨_, b⟩ | ⟨a, _⟩
      · exact b
      · exact absurd g1 a
    have hm2 : rn_m M TP ST nv es 0 (ST 0 (e.2.2.1 + 1)) := by
      rw [tk_oth hF0 g6 (by omega) (by omega) (by omega)]; exact g8
    have ple : PS 0 (e.2.2.1 + 1) ≤ ln 0 := tk_ap hF0.1 (by omega)
    have pot2 : rn_p PS MT kd ct ln es (PS 0 (e.2.2.1 + 1)) < rn_p PS MT kd ct ln (e :: es) (PS s (M s)) := by
      simp only [rn_p, if_pos g1, rn_z]
      omega
    have hi := ih (B - 1) (by omega) es 0 (e.2.2.1 + 1) fc fn cn' t fV fL fN fB vt yv cK cS cT cV cI dg vl FX' FY' (stX + 1) (stY + 1) (by omega) h00 (by omega) hm2 rq2 s1 g hz (by omega) (by omega) (by omega) (by omega) (by omega)
    rw [rn_w0 es _ hm2, show 0 * 96 + PS 0 (e.2.2.1 + 1) = PS 0 (e.2.2.1 + 1) from by omega] at hi
    have hwn : rn_w PS (e :: es) = nI (PS 0 (e.2.2.1 + 1)) := by simp only [rn_w, if_pos g1]
    rw [hwn]
    exact rd_go (fun post h => xs_ret (by omega) hz (by omega) (by omega) (by omega) (hT.1 0 (by omega)).2 h) (fun post h => ys_ret (by omega) hs (by omega) hC (by omega) (by omega) (by rw [Nat.add_sub_cancel, s3, k9]) (by rw [Nat.add_sub_cancel, s4, g5]) (by rw [Nat.add_sub_cancel, s5]) h) hi
end LLRO
end
section
section LLRP
section MAIN
variable {f_openMarkLength f_closeMarkLength f_openCount f_compileFrom f_compileTo f_valueCount f_outCap f_outCount f_frameCount f_valueTextLength f_renderAt f_renderTo f_returnAt f_finished f_overflowed : Int32} {a_text a_cellKind a_cellName a_tagEnd a_sectionEnd a_textLength a_slotStatus a_slotError a_openMark a_closeMark a_openTags a_valueKind a_amount a_parts a_fieldValues a_out a_frameValue a_frameList a_frameNext a_frameBody a_valueText : Nat → Int32} {g_ol g_cl g_newOl g_newCl g_tagName g_parseErr g_openCount g_nVals g_outLen g_outCap g_fn g_cn : Int32} {b_text b_len b_stat b_errPos b_removed b_tType b_tA b_tB b_tName b_tMatch b_tCount b_oc b_cc b_newO b_newC b_openName b_openTok b_vKind b_vNum b_vCnt b_vStr b_vItem b_vKey b_vVal b_out b_fv b_cKind b_cSlot b_cTok b_cVal b_cIdx b_dig : Nat → Int32} {kk cap nv root : Nat} {kd ct ln M : Nat → Nat} {PS TP MT : Nat → Nat → Nat} {ST : Nat → Nat → List Nat}
theorem rd_main (hc1 : 16 ≤ cap) (hc2 : cap ≤ 256) (hT : ir_T ln a_text a_textLength a_slotStatus a_cellKind a_cellName a_tagEnd a_sectionEnd) (hV : vl_R nv kd ct a_valueKind a_amount a_parts a_fieldValues b_vKind b_vNum b_vCnt b_vStr b_vItem b_vKey b_vVal) (hD : sd_P a_slotStatus ln M PS TP MT ST a_text a_cellKind a_cellName a_tagEnd a_sectionEnd b_removed b_tType b_tA b_tB b_tName b_tMatch b_tCount) (r1 : 1 ≤ root) (r2 : root ≤ nv) (h00 : a_slotStatus 0 = 0) : ∀ B : Nat, rd_I kk cap nv root kd ct ln M PS TP MT ST f_openMarkLength f_closeMarkLength f_openCount f_compileFrom f_compileTo f_valueCount f_outCap f_outCount f_frameCount f_valueTextLength f_renderAt f_renderTo f_returnAt f_finished f_overflowed a_text a_cellKind a_cellName a_tagEnd a_sectionEnd a_textLength a_slotStatus a_slotError a_openMark a_closeMark a_openTags a_valueKind a_amount a_parts a_fieldValues a_out a_frameValue a_frameList a_frameNext a_frameBody a_valueText g_ol g_cl g_newOl g_newCl g_tagName g_parseErr g_openCount g_nVals g_outLen g_outCap g_fn g_cn b_text b_len b_stat b_errPos b_removed b_tType b_tA b_tB b_tName b_tMatch b_tCount b_oc b_cc b_newO b_newC b_openName b_openTok b_vKind b_vNum b_vCnt b_vStr b_vItem b_vKey b_vVal b_out b_fv b_cKind b_cSlot b_cTok b_cVal b_cIdx b_dig B := by
  intro B
  induction B using Nat.strongRecOn with
  | _ B ih =>
    intro es s tk fc fn cn t fV fL fN fB vt yv cK cS cT cV cI dg vl FX FY stX stY a1 a2 a3 a4 a5 a6 a7 a8 a9 a10 a11 a12 a13
    by_cases ht : tk = M s
    · exact rm_0 hc1 hc2 hT hV hD r1 r2 h00 (fun B' hB' => ih B' hB') a1 a2 a4 a5 a6 a7 a8 a9 a10 a11 a12 a13 ht
    · have ht' : tk < M s := by omega
      have hA := (hD s a1 a2).2.1.1.2.2 tk ht'
      have hcase : TP s tk = 1 ∨ TP s tk = 2 ∨ TP s tk = 3 ∨ TP s tk = 4 ∨ TP s tk = 5 ∨ TP s tk = 6 ∨ TP s tk = 7 ∨ TP s tk = 8 ∨ TP s tk = 9 := by omega
      rcases hcase with h | h | h | h | h | h | h | h | h
      · exact rm_1 hc1 hc2 hT hV hD r1 r2 h00 (fun B' hB' => ih B' hB') a1 a2 a4 a5 a6 a7 a8 a9 a10 a11 a12 a13 ht' h
      · exact rm_2 hc1 hc2 hT hV hD r1 r2 h00 (fun B' hB' => ih B' hB') a1 a2 a4 a5 a6 a7 a8 a9 a10 a11 a12 a13 ht' h
      · exact rm_3 hc1 hc2 hT hV hD r1 r2 h00 (fun B' hB' => ih B' hB') a1 a2 a4 a5 a6 a7 a8 a9 a10 a11 a12 a13 ht' h
      · exact rm_4 hc1 hc2 hT hV hD r1 r2 h00 (fun B' hB' => ih B' hB') a1 a2 a4 a5 a6 a7 a8 a9 a10 a11 a12 a13 ht' h
      · exact rm_5 hc1 hc2 hT hV hD r1 r2 h00 (fun B' hB' => ih B' hB') a1 a2 a4 a5 a6 a7 a8 a9 a10 a11 a12 a13 ht' h
      · exact rm_6 hc1 hc2 hT hV hD r1 r2 h00 (fun B' hB' => ih B' hB') a1 a2 a4 a5 a6 a7 a8 a9 a10 a11 a12 a13 ht' h
      · exact rm_7 hc1 hc2 hT hV hD r1 r2 h00 (fun B' hB' => ih B' hB') a1 a2 a4 a5 a6 a7 a8 a9 a10 a11 a12 a13 ht' h
      · exact rm_8 hc1 hc2 hT hV hD r1 r2 h00 (fun B' hB' => ih B' hB') a1 a2 a4 a5 a6 a7 a8 a9 a10 a11 a12 a13 ht' h
      · exact rm_9 hc1 hc2 hT hV hD r1 r2 h00 (fun B' hB' => ih B' hB') a1 a2 a4 a5 a6 a7 a8 a9 a10 a11 a12 a13 ht' h
end MAIN
section PARSE
variable {f_openMarkLength f_closeMarkLength f_openCount f_compileFrom f_compileTo f_valueCount f_outCap f_outCount f_frameCount f_valueTextLength f_renderAt f_renderTo f_returnAt f_finished f_overflowed : Int32} {a_text a_cellKind a_cellName a_tagEnd a_sectionEnd a_textLength a_slotStatus a_slotError a_openMark a_closeMark a_openTags a_valueKind a_amount a_parts a_fieldValues a_out a_frameValue a_frameList a_frameNext a_frameBody a_valueText : Nat → Int32}
/-- Y's parses ahead of the walk: the slots below d are done -/
theorem yp_35 {ln : Nat → Nat} {x1 : Int32} (hT : ir_T ln a_text a_textLength a_slotStatus a_cellKind a_cellName a_tagEnd a_sectionEnd) : ∀ (e d : Nat), d + e = 4 → ∀ (g_ol g_cl g_newOl g_newCl g_tagName g_parseErr g_openCount g_nVals g_outLen g_outCap g_fn g_cn : Int32) (b_text b_len b_stat b_errPos b_removed b_tType b_tA b_tB b_tName b_tMatch b_tCount b_oc b_cc b_newO b_newC b_openName b_openTok b_vKind b_vNum b_vCnt b_vStr b_vItem b_vKey b_vVal b_out b_fv b_cKind b_cSlot b_cTok b_cVal b_cIdx b_dig : Nat → Int32), (∀ s, s < d → a_slotStatus s = 0 → ∃ (m : Nat) (ps tp : Nat → Nat) (st : Nat → List Nat), b_tCount s = nI m ∧ tk_F s (ln s) (fun i => a_text (s * 96 + i)) a_cellKind a_cellName a_tagEnd a_sectionEnd b_removed b_tType b_tA b_tB b_tName b_tMatch m ps tp st) →
    ∃ (g_ol' g_cl' g_newOl' g_newCl' g_tagName' g_parseErr' g_openCount' : Int32) (b_removed' b_tType' b_tA' b_tB' b_tName' b_tMatch' b_tCount' b_oc' b_cc' b_newO' b_newC' b_openName' b_openTok' : Nat → Int32), (∀ s, s < 4 → a_slotStatus s = 0 → ∃ (m : Nat) (ps tp : Nat → Nat) (st : Nat → List Nat), b_tCount' s = nI m ∧ tk_F s (ln s) (fun i => a_text (s * 96 + i)) a_cellKind a_cellName a_tagEnd a_sectionEnd b_removed' b_tType' b_tA' b_tB' b_tName' b_tMatch' m ps tp st) ∧
    ∀ post : Int32 → SY → Prop, (∃ n85, wY_render_85 post n85 0 0 0 g_ol' g_cl' g_newOl' g_newCl' g_tagName' g_parseErr' g_openCount' g_nVals g_outLen g_outCap 1 0 a_text a_textLength a_slotStatus b_errPos b_removed' b_tType' b_tA' b_tB' b_tName' b_tMatch' b_tCount' b_oc' b_cc' b_newO' b_newC' b_openName' b_openTok' b_vKind b_vNum b_vCnt b_vStr b_vItem b_vKey b_vVal b_out (upd b_fv 0 x1) b_cKind b_cSlot b_cTok b_cVal b_cIdx b_dig) → wY_render_35 post x1 (e + 1) (nI d) g_ol g_cl g_newOl g_newCl g_tagName g_parseErr g_openCount g_nVals g_outLen g_outCap g_fn g_cn a_text a_textLength a_slotStatus b_errPos b_removed b_tType b_tA b_tB b_tName b_tMatch b_tCount b_oc b_cc b_newO b_newC b_openName b_openTok b_vKind b_vNum b_vCnt b_vStr b_vItem b_vKey b_vVal b_out b_fv b_cKind b_cSlot b_cTok b_cVal b_cIdx b_dig := by
  intro e
  induction e with
  | zero =>
    intro d hd g_ol g_cl g_newOl g_newCl g_tagName g_parseErr g_openCount g_nVals g_outLen g_outCap g_fn g_cn b_text b_len b_stat b_errPos b_removed b_tType b_tA b_tB b_tName b_tMatch b_tCount b_oc b_cc b_newO b_newC b_openName b_openTok b_vKind b_vNum b_vCnt b_vStr b_vItem b_vKey b_vVal b_out b_fv b_cKind b_cSlot b_cTok b_cVal b_cIdx b_dig h
    have e4 : d = 4 := by omega
    subst e4
    exact ⟨g_ol, g_cl, g_newOl, g_newCl, g_tagName, g_parseErr, g_openCount, b_removed, b_tType, b_tA, b_tB, b_tName, b_tMatch, b_tCount, b_oc, b_cc, b_newO, b_newC, b_openName, b_openTok, h, fun post hp => br_t (nI_le (a := 4) (b := 4) (by omega) (by decide)) (nm_e hp)⟩
  | succ e ih =>
    intro d hd g_ol g_cl g_newOl g_newCl g_tagName g_parseErr g_openCount g_nVals g_outLen g_outCap g_fn g_cn b_text b_len b_stat b_errPos b_removed b_tType b_tA b_tB b_tName b_tMatch b_tCount b_oc b_cc b_newO b_newC b_openName b_openTok b_vKind b_vNum b_vCnt b_vStr b_vItem b_vKey b_vVal b_out b_fv b_cKind b_cSlot b_cTok b_cVal b_cIdx b_dig h
    have hd4 : d < 4 := by omega
    have eC : (nI d).toNatClampNeg = d := nI_clamp (by omega)
    by_cases z : a_slotStatus d = 0
    · have cp := hT.2.2 d hd4 z
      unfold cp_L at cp
      obtain ⟨g_ol1, g_cl1, g_newOl1, g_newCl1, g_tagName1, g_parseErr1, g_openCount1, b_removed1, b_tType1, b_tA1, b_tB1, b_tName1, b_tMatch1, b_tCount1, b_oc1, b_cc1, b_newO1, b_newC1, b_openName1, b_openTok1, hp, hc, hr, ht, m, ps, tp, st, hm, hF⟩ := cp g_ol g_cl g_newOl g_newCl g_tagName g_parseErr g_openCount g_nVals g_outLen g_outCap g_fn g_cn a_text a_textLength a_slotStatus b_errPos b_removed b_tType b_tA b_tB b_tName b_tMatch b_tCount b_oc b_cc b_newO b_newC b_openName b_openTok b_vKind b_vNum b_vCnt b_vStr b_vItem b_vKey b_vVal b_out b_fv b_cKind b_cSlot b_cTok b_cVal b_cIdx b_dig (fun i _ => rfl) (hT.1 d hd4).2
      obtain ⟨g_ol', g_cl', g_newOl', g_newCl', g_tagName', g_parseErr', g_openCount', b_removed', b_tType', b_tA', b_tB', b_tName', b_tMatch', b_tCount', b_oc', b_cc', b_newO', b_newC', b_openName', b_openTok', w1, w2⟩ := ih (d + 1) (by omega) g_ol1 g_cl1 g_newOl1 g_newCl1 g_tagName1 g_parseErr1 g_openCount1 g_nVals g_outLen g_outCap g_fn g_cn b_text b_len b_stat b_errPos b_removed1 b_tType1 b_tA1 b_tB1 b_tName1 b_tMatch1 b_tCount1 b_oc1 b_cc1 b_newO1 b_newC1 b_openName1 b_openTok1 b_vKind b_vNum b_vCnt b_vStr b_vItem b_vKey b_vVal b_out b_fv b_cKind b_cSlot b_cTok b_cVal b_cIdx b_dig (fun s hs hz => by
        by_cases e5 : s = d
        · subst e5
          exact ⟨m, ps, tp, st, hm, hF⟩
        · obtain ⟨m', ps', tp', st', k1, k2⟩ := h s (by omega) hz
          refine ⟨m', ps', tp', st', (hc s e5).trans k1, tk_Fcg (hT.1 s (by omega)).1 k2 (fun c hc' => ⟨rfl, rfl, rfl, rfl, rfl, hr s c e5 hc'⟩) (fun j hj => ht s j e5 hj)⟩)
      refine ⟨g_ol', g_cl', g_newOl', g_newCl', g_tagName', g_parseErr', g_openCount', b_removed', b_tType', b_tA', b_tB', b_tName', b_tMatch', b_tCount', b_oc', b_cc', b_newO', b_newC', b_openName', b_openTok', w1, fun post hpo => ?_⟩
      exact br_f (nI_ge (b := 4) hd4 (by decide)) ⟨vp_in_nI hd4 (by omega), br_t (by rw [eC]; exact z) (hp _ (nm_r (nI_1 _) (w2 post hpo)))⟩
    · obtain ⟨g_ol', g_cl', g_newOl', g_newCl', g_tagName', g_parseErr', g_openCount', b_removed', b_tType', b_tA', b_tB', b_tName', b_tMatch', b_tCount', b_oc', b_cc', b_newO', b_newC', b_openName', b_openTok', w1, w2⟩ := ih (d + 1) (by omega) g_ol g_cl g_newOl g_newCl g_tagName g_parseErr g_openCount g_nVals g_outLen g_outCap g_fn g_cn b_text b_len b_stat b_errPos b_removed b_tType b_tA b_tB b_tName b_tMatch b_tCount b_oc b_cc b_newO b_newC b_openName b_openTok b_vKind b_vNum b_vCnt b_vStr b_vItem b_vKey b_vVal b_out b_fv b_cKind b_cSlot b_cTok b_cVal b_cIdx b_dig (fun s hs hz => by
        by_cases e5 : s = d
        · subst e5; exact absurd hz z
        · exact h s (by omega) hz)
      refine ⟨g_ol', g_cl', g_newOl', g_newCl', g_tagName', g_parseErr', g_openCount', b_removed', b_tType', b_tA', b_tB', b_tName', b_tMatch', b_tCount', b_oc', b_cc', b_newO', b_newC', b_openName', b_openTok', w1, fun post hpo => ?_⟩
      exact br_f (nI_ge (b := 4) hd4 (by decide)) ⟨vp_in_nI hd4 (by omega), br_f (by rw [eC]; exact z) (nm_r (nI_1 _) (w2 post hpo))⟩
end PARSE
end LLRP
end
section
section LLRQ
section XX
variable {f_openMarkLength f_closeMarkLength f_openCount f_compileFrom f_compileTo f_valueCount f_outCap f_outCount f_frameCount f_valueTextLength f_renderAt f_renderTo f_returnAt f_finished f_overflowed : Int32} {a_text a_cellKind a_cellName a_tagEnd a_sectionEnd a_textLength a_slotStatus a_slotError a_openMark a_closeMark a_openTags a_valueKind a_amount a_parts a_fieldValues a_out a_frameValue a_frameList a_frameNext a_frameBody a_valueText : Nat → Int32}
theorem xr_st {post : SX → Prop} {n root : Nat} (hl : a_textLength 0 = nI n) (h : post (f_openMarkLength, f_closeMarkLength, f_openCount, f_compileFrom, f_compileTo, f_valueCount, f_outCap, 0, nI 1, f_valueTextLength, 0, nI (0 * 96 + n), -1, 0, 0, a_text, a_cellKind, a_cellName, a_tagEnd, a_sectionEnd, a_textLength, a_slotStatus, a_slotError, a_openMark, a_closeMark, a_openTags, a_valueKind, a_amount, a_parts, a_fieldValues, a_out, upd a_frameValue 0 (nI root), upd a_frameList 0 0, upd a_frameNext 0 (nI 1), upd a_frameBody 0 (-1), a_valueText)) : wpX_startRender post (f_openMarkLength, f_closeMarkLength, f_openCount, f_compileFrom, f_compileTo, f_valueCount, f_outCap, f_outCount, f_frameCount, f_valueTextLength, f_renderAt, f_renderTo, f_returnAt, f_finished, f_overflowed, a_text, a_cellKind, a_cellName, a_tagEnd, a_sectionEnd, a_textLength, a_slotStatus, a_slotError, a_openMark, a_closeMark, a_openTags, a_valueKind, a_amount, a_parts, a_fieldValues, a_out, a_frameValue, a_frameList, a_frameNext, a_frameBody, a_valueText) (nI root) := by
  unfold wpX_startRender
  exact xl_tend (s := 0) (by omega) hl (xs_push (fc := 0) (by omega) h)
end XX
theorem i_vc_render {k : Nat} {u : SX} {v : SY} (I : i_Rel k u v) (hk : k + 4 ≤ 2049) (v1 : Int32) : wpX_render (fun r u' => wpY_render (fun r' v' => r' = r ∧ i_Rel (k + 4) u' v') v v1) u v1 := by
  refine ir_el (P := fun u v => wpX_render (fun r u' => wpY_render (fun r' v' => r' = r ∧ i_Rel (k + 4) u' v') v v1) u v1) I ?_
  intro f_openMarkLength f_closeMarkLength f_openCount f_compileFrom f_compileTo f_frameCount f_valueTextLength f_renderAt f_renderTo f_returnAt f_finished f_overflowed a_text a_cellKind a_cellName a_tagEnd a_sectionEnd a_textLength a_slotStatus a_slotError a_openMark a_closeMark a_openTags a_valueKind a_amount a_parts a_fieldValues a_out a_frameValue a_frameList a_frameNext a_frameBody a_valueText g_ol g_cl g_newOl g_newCl g_tagName g_parseErr g_openCount g_fn g_cn b_removed b_tType b_tA b_tB b_tName b_tMatch b_tCount b_oc b_cc b_newO b_newC b_openName b_openTok b_vKind b_vNum b_vCnt b_vStr b_vItem b_vKey b_vVal b_fv b_cKind b_cSlot b_cTok b_cVal b_cIdx b_dig ln nv oc cap kd ct hc1 hc2 hoc hT hV
  unfold wpX_render wpY_render
  have hnv := hV.1
  by_cases h00 : a_slotStatus 0 = 0
  · rcases id_ix v1 hnv with h | ⟨j, hj, rfl⟩
    · refine br_t h00 (xl_vout h (br_t rfl (br_t h00 (br_c (fun _ => ⟨rfl, ir_mk hc1 hc2 hoc hT hV⟩) (fun z => br_f ?_ ⟨rfl, ir_mk hc1 hc2 hoc hT hV⟩)))))
      rcases h with h | h
      · exact absurd h z
      · exact Int32.not_le.mpr h
    · obtain ⟨g1, g2, _, g4, _⟩ := hV.2 j hj
      have hl0 := hT.1 0 (by omega)
      obtain ⟨g_ol', g_cl', g_newOl', g_newCl', g_tagName', g_parseErr', g_openCount', b_removed', b_tType', b_tA', b_tB', b_tName', b_tMatch', b_tCount', b_oc', b_cc', b_newO', b_newC', b_openName', b_openTok', w1, w2⟩ := yp_35 (a_text := a_text) (a_cellKind := a_cellKind) (a_cellName := a_cellName) (a_tagEnd := a_tagEnd) (a_sectionEnd := a_sectionEnd) (a_textLength := a_textLength) (a_slotStatus := a_slotStatus) (x1 := nI (j + 1)) hT 4 0 rfl g_ol g_cl g_newOl g_newCl g_tagName g_parseErr g_openCount (nI nv) 0 (nI cap) g_fn g_cn a_text a_textLength a_slotStatus a_slotError b_removed b_tType b_tA b_tB b_tName b_tMatch b_tCount b_oc b_cc b_newO b_newC b_openName b_openTok b_vKind b_vNum b_vCnt b_vStr b_vItem b_vKey b_vVal a_out b_fv b_cKind b_cSlot b_cTok b_cVal b_cIdx b_dig (fun s hs => absurd hs (by omega))
      have cho : ∀ s : Nat, ∃ gg : Nat × (Nat → Nat) × (Nat → Nat) × (Nat → List Nat), s < 4 → a_slotStatus s = 0 → b_tCount' s = nI gg.1 ∧ tk_F s (ln s) (fun i => a_text (s * 96 + i)) a_cellKind a_cellName a_tagEnd a_sectionEnd b_removed' b_tType' b_tA' b_tB' b_tName' b_tMatch' gg.1 gg.2.1 gg.2.2.1 gg.2.2.2 := by
        intro s
        by_cases z : s < 4 ∧ a_slotStatus s = 0
        · obtain ⟨m, ps, tp, st, z1, z2⟩ := w1 s z.1 z.2
          exact ⟨(m, ps, tp, st), fun _ _ => ⟨z1, z2⟩⟩
        · exact ⟨(0, fun _ => 0, fun _ => 0, fun _ => []), fun a b => absurd ⟨a, b⟩ z⟩
      obtain ⟨gf, hgf⟩ := Classical.axiomOfChoice cho
      have hF0 := (hgf 0 (by omega) h00).2
      have hD : sd_P a_slotStatus ln (fun s => (gf s).1) (fun s => (gf s).2.1) (fun s => (gf s).2.2.1) (fun s t => (b_tMatch' (s * 100 + t)).toNatClampNeg) (fun s => (gf s).2.2.2) a_text a_cellKind a_cellName a_tagEnd a_sectionEnd b_removed' b_tType' b_tA' b_tB' b_tName' b_tMatch' b_tCount' := fun s hs hz => ⟨(hT.1 s hs).1, (hgf s hs hz).2, (hgf s hs hz).1, fun _ _ => rfl⟩
      have key := rd_main (f_openMarkLength := f_openMarkLength) (f_closeMarkLength := f_closeMarkLength) (f_openCount := f_openCount) (f_compileFrom := f_compileFrom) (f_compileTo := f_compileTo) (f_valueCount := nI nv) (f_outCap := nI cap) (f_outCount := nI oc) (f_frameCount := f_frameCount) (f_valueTextLength := f_valueTextLength) (f_renderAt := f_renderAt) (f_renderTo := f_renderTo) (f_returnAt := f_returnAt) (f_finished := f_finished) (f_overflowed := f_overflowed) (a_text := a_text) (a_cellKind := a_cellKind) (a_cellName := a_cellName) (a_tagEnd := a_tagEnd) (a_sectionEnd := a_sectionEnd) (a_textLength := a_textLength) (a_slotStatus := a_slotStatus) (a_slotError := a_slotError) (a_openMark := a_openMark) (a_closeMark := a_closeMark) (a_openTags := a_openTags) (a_valueKind := a_valueKind) (a_amount := a_amount) (a_parts := a_parts) (a_fieldValues := a_fieldValues) (a_out := a_out) (a_frameValue := a_frameValue) (a_frameList := a_frameList) (a_frameNext := a_frameNext) (a_frameBody := a_frameBody) (a_valueText := a_valueText) (g_ol := g_ol') (g_cl := g_cl') (g_newOl := g_newOl') (g_newCl := g_newCl') (g_tagName := g_tagName') (g_parseErr := g_parseErr') (g_openCount := g_openCount') (g_nVals := (nI nv)) (g_outLen := 0) (g_outCap := (nI cap)) (g_fn := g_fn) (g_cn := g_cn) (b_text := a_text) (b_len := a_textLength) (b_stat := a_slotStatus) (b_errPos := a_slotError) (b_removed := b_removed') (b_tType := b_tType') (b_tA := b_tA') (b_tB := b_tB') (b_tName := b_tName') (b_tMatch := b_tMatch') (b_tCount := b_tCount') (b_oc := b_oc') (b_cc := b_cc') (b_newO := b_newO') (b_newC := b_newC') (b_openName := b_openName') (b_openTok := b_openTok') (b_vKind := b_vKind) (b_vNum := b_vNum) (b_vCnt := b_vCnt) (b_vStr := b_vStr) (b_vItem := b_vItem) (b_vKey := b_vKey) (b_vVal := b_vVal) (b_out := a_out) (b_fv := b_fv) (b_cKind := b_cKind) (b_cSlot := b_cSlot) (b_cTok := b_cTok) (b_cVal := b_cVal) (b_cIdx := b_cIdx) (b_dig := b_dig) (kk := k + 4) (cap := cap) (nv := nv) (root := j + 1) (kd := kd) (ct := ct) (ln := ln) (M := fun s => (gf s).1) (PS := fun s => (gf s).2.1) (TP := fun s => (gf s).2.2.1) (MT := fun s t => (b_tMatch' (s * 100 + t)).toNatClampNeg) (ST := fun s => (gf s).2.2.2) hc1 hc2 hT hV hD (by omega) (by omega) h00 (24608 * ln 0 + 1) [] 0 0 1 1 0 (a_out, 0, 0) (upd a_frameValue 0 (nI (j + 1))) (upd a_frameList 0 0) (upd a_frameNext 0 (nI 1)) (upd a_frameBody 0 (-1)) a_valueText (upd b_fv 0 (nI (j + 1))) b_cKind b_cSlot b_cTok b_cVal b_cIdx b_dig f_valueTextLength (24608 * ln 0 + 2) (24608 * ln 0 + 2) 0 0 (by omega) h00 (Nat.zero_le _) ⟨rfl, hF0.2.2.1.1⟩ trivial ⟨rfl, rfl, rfl, pk_us, pk_us⟩ ⟨Nat.zero_le _, Or.inl rfl⟩ rfl (by
          show 24608 * (ln 0 - (gf 0).2.1 0) + 1 ≤ _
          omega) (by omega) (by omega) (by omega) (by omega)
      have ps0 : (gf 0).2.1 0 = 0 := hF0.1.1
      obtain ⟨r, u, v, k1, k2, k3⟩ := key
      refine br_t h00 (xl_vin hnv hj g4 g1 g2 (br_f (by decide) (xr_st hl0.2 ⟨24608 * ln 0 + 2, ?_⟩)))
      have k2' := k2 (fun r u' => wpY_render (fun r' v' => r' = r ∧ i_Rel (k + 4) u' v') (g_ol, g_cl, g_newOl, g_newCl, g_tagName, g_parseErr, g_openCount, nI nv, nI oc, nI cap, g_fn, g_cn, a_text, a_textLength, a_slotStatus, a_slotError, b_removed, b_tType, b_tA, b_tB, b_tName, b_tMatch, b_tCount, b_oc, b_cc, b_newO, b_newC, b_openName, b_openTok, b_vKind, b_vNum, b_vCnt, b_vStr, b_vItem, b_vKey, b_vVal, a_out, b_fv, b_cKind, b_cSlot, b_cTok, b_cVal, b_cIdx, b_dig) (nI (j + 1))) ?_
      · dsimp only at k2'
        rw [ps0] at k2'
        exact k2'
      · refine br_t h00 (br_f (nI_nlt (b := 1) (by omega) (by omega)) (br_t (nI_le (by omega) (by omega)) ⟨_, w2 _ ⟨24608 * ln 0 + 2, ?_⟩⟩))
        exact k3 (fun r' v' => r' = r ∧ i_Rel (k + 4) u v') ⟨rfl, k1⟩
  · exact br_f h00 (br_f h00 ⟨rfl, ir_mk hc1 hc2 hoc hT hV⟩)
end LLRQ
end
