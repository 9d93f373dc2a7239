section LLW
/-! arrays that a loop fills -/
theorem fl_uu {f : Nat → Int32} {k : Nat} {x y : Int32} : upd (upd f k x) k y = upd f k y := by
  funext j
  by_cases h : j = k
  · rw [h, pk_us, pk_us]
  · rw [pk_un h, pk_un h, pk_un h]
def fl_f (f : Nat → Int32) (lo hi : Nat) (x : Int32) : Nat → Int32 := fun j => if lo ≤ j ∧ j < hi then x else f j
theorem fl_in {f : Nat → Int32} {lo hi j : Nat} {x : Int32} (h1 : lo ≤ j) (h2 : j < hi) : fl_f f lo hi x j = x := if_pos ⟨h1, h2⟩
theorem fl_out {f : Nat → Int32} {lo hi j : Nat} {x : Int32} (h : j < lo ∨ hi ≤ j) : fl_f f lo hi x j = f j := if_neg (fun z => by omega)
theorem fl_0 {f : Nat → Int32} {lo hi : Nat} {x : Int32} (h : hi ≤ lo) : fl_f f lo hi x = f := by
  funext j
  exact fl_out (by omega)
theorem fl_s {f : Nat → Int32} {lo hi : Nat} {x : Int32} (h : lo ≤ hi) : upd (fl_f f lo hi x) hi x = fl_f f lo (hi + 1) x := by
  funext j
  by_cases e : j = hi
  · rw [e, pk_us, fl_in h (by omega)]
  · rw [pk_un e]
    by_cases e2 : lo ≤ j ∧ j < hi
    · rw [fl_in e2.1 e2.2, fl_in e2.1 (by omega)]
    · rw [fl_out (by omega), fl_out (by omega)]
def cy_f (f g : Nat → Int32) (d : Nat) : Nat → Int32 := fun j => if j < d then g j else f j
theorem cy_in {f g : Nat → Int32} {d j : Nat} (h : j < d) : cy_f f g d j = g j := if_pos h
theorem cy_out {f g : Nat → Int32} {d j : Nat} (h : d ≤ j) : cy_f f g d j = f j := if_neg (by omega)
theorem cy_0 {f g : Nat → Int32} : cy_f f g 0 = f := by
  funext j
  exact cy_out (by omega)
theorem cy_s {f g : Nat → Int32} {d : Nat} : upd (cy_f f g d) d (g d) = cy_f f g (d + 1) := by
  funext j
  by_cases e : j = d
  · rw [e, pk_us, cy_in (by omega)]
  · rw [pk_un e]
    by_cases e2 : j < d
    · rw [cy_in e2, cy_in (by omega)]
    · rw [cy_out (by omega), cy_out (by omega)]
/-- writes at base + i, base + i + 1 .. -/
def wr_f (t : Nat → Int32) (g : Nat → Int32) (b : Nat) (d : Nat) : Nat → Int32 := fun j => if b ≤ j ∧ j < b + d then g (j - b) else t j
theorem wr_0 {t g : Nat → Int32} {b : Nat} : wr_f t g b 0 = t := by
  funext j
  exact if_neg (by omega)
theorem wr_s {t g : Nat → Int32} {b d : Nat} : upd (wr_f t g b d) (b + d) (g d) = wr_f t g b (d + 1) := by
  funext j
  by_cases e : j = b + d
  · rw [e, pk_us]
    show _ = if _ then _ else _
    rw [if_pos (by omega), show b + d - b = d from by omega]
  · rw [pk_un e]
    show (if _ then _ else _) = if _ then _ else _
    by_cases e2 : b ≤ j ∧ j < b + d
    · rw [if_pos e2, if_pos (by omega)]
    · rw [if_neg e2, if_neg (by omega)]
theorem wr_out {t g : Nat → Int32} {b d j : Nat} (h : j < b ∨ b + d ≤ j) : wr_f t g b d j = t j := if_neg (by omega)
theorem wr_in {t g : Nat → Int32} {b d j : Nat} (h : b ≤ j) (h2 : j < b + d) : wr_f t g b d j = g (j - b) := if_pos ⟨h, h2⟩
end LLW
