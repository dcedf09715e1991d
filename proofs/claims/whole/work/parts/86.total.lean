/-! READING A SUM ENDS: enough fuel -/
def rk (g : Nat) : Nat := if g = 0 then 1 else if g = 1 then 2 else if g = 2 then 1 else if g = 3 then 3 else if g = 4 then 1 else if g = 5 then 6 else if g = 6 then 1 else if g = 7 then 5 else if g = 8 then 1 else 4
/-- it ends, at a token that is there -/
def rsOK (n i : Nat) (lp : Bool) (r : Option Rs) : Prop := (∃ f j, r = rOk f j ∧ i ≤ j ∧ j ≤ n ∧ (lp = false → i < j)) ∨ ∃ c j, r = rBad c j ∧ i ≤ j ∧ j ≤ n ∧ 1 ≤ c ∧ c ≤ 5
theorem rsOK_B {n i i' : Nat} {lp lp' : Bool} {r : Option Rs} {g : (E1 → Int) → Nat → Option Rs} (h : rsOK n i' lp' r) (hi : i ≤ i') (H : ∀ f j, i' ≤ j → j ≤ n → (lp' = false → i' < j) → rsOK n i lp (g f j)) : rsOK n i lp (rB r g) := by
  rcases h with ⟨f, j, rfl, a, b, c⟩ | ⟨c, j, rfl, a, b, d, e⟩
  · exact H f j a b c
  · exact Or.inr ⟨c, j, rfl, by omega, b, d, e⟩
theorem rsOK_ok {n i j : Nat} {lp : Bool} {f : E1 → Int} (h1 : i ≤ j) (h2 : j ≤ n) (h3 : lp = false → i < j) : rsOK n i lp (rOk f j) := Or.inl ⟨f, j, rfl, h1, h2, h3⟩
theorem rsOK_bad {n i j c : Nat} {lp : Bool} (h1 : i ≤ j) (h2 : j ≤ n) (h3 : 1 ≤ c ∧ c ≤ 5) : rsOK n i lp (rBad c j) := Or.inr ⟨c, j, rfl, h1, h2, h3.1, h3.2⟩
theorem rsOK_w {n i i' : Nat} {lp lp' : Bool} {r : Option Rs} (h : rsOK n i' lp' r) (hi : i ≤ i') (hl : lp = false → i < i' ∨ lp' = false) : rsOK n i lp r := by
  rcases h with ⟨f, j, rfl, a, b, c⟩ | ⟨c, j, rfl, a, b, d, e⟩
  · refine Or.inl ⟨f, j, rfl, by omega, b, fun q => ?_⟩
    rcases hl q with x | x
    · omega
    · have := c x; omega
  · exact Or.inr ⟨c, j, rfl, by omega, b, d, e⟩
