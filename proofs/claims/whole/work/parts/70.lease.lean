/-! THE LEASE, PURE: the best months by worths from the last month on -/
/-- j months are left: the month is 11 - j at j + 1 -/
def lG (g : Nat → Int) (s : Nat → Bool) : Nat → Int
  | 0 => 0
  | j + 1 => (if s (11 - j) = true then g (11 - j) else 0) + lG g s j
def lC (s : Nat → Bool) : Nat → Nat
  | 0 => 0
  | j + 1 => (if s (11 - j) = true then 1 else 0) + lC s j
def lA (gap : Nat) (s : Nat → Bool) : Nat → Nat → Bool
  | 0, _ => true
  | j + 1, nx => if s (11 - j) = true then decide (nx ≤ 11 - j) && lA gap s j (11 - j + gap + 1) else lA gap s j nx
def lH (s u : Nat → Bool) : Nat → Bool
  | 0 => false
  | j + 1 => if s (11 - j) = u (11 - j) then lH s u j else s (11 - j)
def lW (g : Nat → Int) (gap : Nat) : Nat → Nat → Int
  | 0, _ => 0
  | _ + 1, 0 => 0
  | j + 1, l + 1 => max (lW g gap j (l + 1)) (g (11 - j) * 16 - 1 + lW g gap (j - gap) l)
termination_by j l => j
decreasing_by all_goals omega
def lB (g : Nat → Int) (gap : Nat) : Nat → Nat → Nat → Bool
  | 0, _ => fun _ => false
  | _ + 1, 0 => fun _ => false
  | j + 1, l + 1 => if lW g gap (j + 1) (l + 1) = g (11 - j) * 16 - 1 + lW g gap (j - gap) l then (fun i => decide (i = 11 - j) || lB g gap (j - gap) l i) else lB g gap j (l + 1)
termination_by j l => j
decreasing_by all_goals omega
theorem lW_00 (g : Nat → Int) (gap l : Nat) : lW g gap 0 l = 0 := by rw [lW]
theorem lW_0 (g : Nat → Int) (gap j : Nat) : lW g gap j 0 = 0 := by cases j <;> rw [lW]
theorem lW_s (g : Nat → Int) (gap j l : Nat) : lW g gap (j + 1) (l + 1) = max (lW g gap j (l + 1)) (g (11 - j) * 16 - 1 + lW g gap (j - gap) l) := by rw [lW]
theorem lB_00 (g : Nat → Int) (gap l : Nat) : lB g gap 0 l = fun _ => false := by rw [lB]
theorem lB_0 (g : Nat → Int) (gap j : Nat) : lB g gap j 0 = fun _ => false := by cases j <;> rw [lB]
theorem lB_T {g : Nat → Int} {gap j l : Nat} (h : lW g gap (j + 1) (l + 1) = g (11 - j) * 16 - 1 + lW g gap (j - gap) l) : lB g gap (j + 1) (l + 1) = fun i => decide (i = 11 - j) || lB g gap (j - gap) l i := by rw [lB, if_pos h]
theorem lB_F {g : Nat → Int} {gap j l : Nat} (h : ¬ lW g gap (j + 1) (l + 1) = g (11 - j) * 16 - 1 + lW g gap (j - gap) l) : lB g gap (j + 1) (l + 1) = lB g gap j (l + 1) := by rw [lB, if_neg h]
theorem lB_in (g : Nat → Int) (gap n : Nat) : ∀ j l i, j ≤ n → j ≤ 12 → lB g gap j l i = true → 12 - j ≤ i ∧ i < 12 := by
  induction n with
  | zero =>
    intro j l i hj _ h
    have : j = 0 := by omega
    subst this
    rw [lB_00] at h
    exact absurd h (by simp)
  | succ n ih =>
    intro j l i hj h12 h
    match j, l with
    | 0, l => rw [lB_00] at h; exact absurd h (by simp)
    | j + 1, 0 => rw [lB_0] at h; exact absurd h (by simp)
    | j + 1, l + 1 =>
      by_cases k : lW g gap (j + 1) (l + 1) = g (11 - j) * 16 - 1 + lW g gap (j - gap) l
      · rw [lB_T k] at h
        simp at h
        rcases h with h | h
        · omega
        · have := ih (j - gap) l i (by omega) (by omega) h; omega
      · rw [lB_F k] at h
        have := ih j (l + 1) i (by omega) (by omega) h; omega
theorem lB_out {g : Nat → Int} {gap j l i : Nat} (hj : j ≤ 12) (h : i < 12 - j) : lB g gap j l i = false := by
  cases e : lB g gap j l i with
  | false => rfl
  | true => have := lB_in g gap j j l i (by omega) hj e; omega
theorem lA_up {gap : Nat} {s : Nat → Bool} (j : Nat) : ∀ nx nx', j ≤ 12 → nx' ≤ 12 - j → lA gap s j nx = true → lA gap s j nx' = true := by
  induction j with
  | zero => intro nx nx' _ _ _; rfl
  | succ j ih =>
    intro nx nx' hj hn h
    rw [lA] at h ⊢
    split at h
    · rename_i k
      rw [if_pos k]
      simp at h ⊢
      exact ⟨by omega, h.2⟩
    · rename_i k
      rw [if_neg k]
      exact ih nx nx' (by omega) (by omega) h
theorem l_ext {g : Nat → Int} {gap : Nat} {s u : Nat → Bool} (j : Nat) (hj : j ≤ 12) (h : ∀ i, 12 - j ≤ i → i < 12 → s i = u i) : lG g s j = lG g u j ∧ lC s j = lC u j ∧ ∀ nx, lA gap s j nx = lA gap u j nx := by
  induction j with
  | zero => exact ⟨rfl, rfl, fun _ => rfl⟩
  | succ j ih =>
    obtain ⟨a, b, c⟩ := ih (by omega) (fun i h1 h2 => h i (by omega) h2)
    have e := h (11 - j) (by omega) (by omega)
    refine ⟨by rw [lG, lG, e, a], by rw [lC, lC, e, b], fun nx => ?_⟩
    rw [lA, lA, e, c, c]
/-- months between that aren't in it -/
theorem l_skip {g : Nat → Int} {gap : Nat} {s : Nat → Bool} {j' : Nat} (d : Nat) : ∀ j, j = j' + d → j ≤ 12 → (∀ i, 12 - j ≤ i → i < 12 - j' → s i = false) → lG g s j = lG g s j' ∧ lC s j = lC s j' ∧ ∀ nx, lA gap s j nx = lA gap s j' nx := by
  induction d with
  | zero => intro j e _ _; rw [e]; exact ⟨rfl, rfl, fun _ => rfl⟩
  | succ d ih =>
    intro j e hj h
    obtain ⟨k, rfl⟩ : ∃ k, j = k + 1 := ⟨j' + d, by omega⟩
    obtain ⟨a, b, c⟩ := ih k (by omega) (by omega) (fun i h1 h2 => h i (by omega) h2)
    have z := h (11 - k) (by omega) (by omega)
    refine ⟨?_, ?_, fun nx => ?_⟩
    · rw [lG, z, a]; simp
    · rw [lC, z, b]; simp
    · rw [lA, z, if_neg (by simp), c]
theorem lH_skip {s u : Nat → Bool} {j' : Nat} (d : Nat) : ∀ j, j = j' + d → j ≤ 12 → (∀ i, 12 - j ≤ i → i < 12 - j' → s i = u i) → lH s u j = lH s u j' := by
  induction d with
  | zero => intro j e _ _; rw [e]; rfl
  | succ d ih =>
    intro j e hj h
    obtain ⟨k, rfl⟩ : ∃ k, j = k + 1 := ⟨j' + d, by omega⟩
    rw [lH, if_pos (h (11 - k) (by omega) (by omega)), ih k (by omega) (by omega) (fun i h1 h2 => h i (by omega) h2)]
theorem lH_ext {s s' u : Nat → Bool} (j : Nat) (hj : j ≤ 12) (h : ∀ i, 12 - j ≤ i → i < 12 → s i = s' i) : lH s u j = lH s' u j := by
  induction j with
  | zero => rfl
  | succ j ih =>
    have e := h (11 - j) (by omega) (by omega)
    rw [lH, lH, e, ih (by omega) (fun i h1 h2 => h i (by omega) h2)]
theorem lA_zero {gap : Nat} {s : Nat → Bool} (j : Nat) : ∀ nx, j ≤ 12 → lA gap s j nx = true → ∀ i, 12 - j ≤ i → i < 12 → i < nx → s i = false := by
  induction j with
  | zero => intro nx _ _ i h1 h2; omega
  | succ j ih =>
    intro nx hj h i h1 h2 h3
    rw [lA] at h
    split at h
    · rename_i k
      simp at h
      by_cases e : i = 11 - j
      · omega
      · exact ih _ (by omega) h.2 i (by omega) h2 (by omega)
    · rename_i k
      by_cases e : i = 11 - j
      · subst e; simpa using k
      · exact ih _ (by omega) h i (by omega) h2 h3
def lO (g : Nat → Int) (s : Nat → Bool) (j : Nat) : Int := 16 * lG g s j - lC s j
theorem lB_ok (g : Nat → Int) (gap n : Nat) : ∀ j l, j ≤ n → j ≤ 12 → lA gap (lB g gap j l) j (12 - j) = true ∧ lC (lB g gap j l) j ≤ l ∧ lO g (lB g gap j l) j = lW g gap j l := by
  have Z : ∀ j, j ≤ 12 → lA gap (fun _ => false) j (12 - j) = true ∧ lC (fun _ => false) j = 0 ∧ lG g (fun _ => false) j = 0 := by
    intro j hj
    obtain ⟨a, b, c⟩ := l_skip (g := g) (gap := gap) (s := fun _ => false) (j' := 0) j j (by omega) hj (fun _ _ _ => rfl)
    exact ⟨(c _).trans rfl, b, a⟩
  induction n with
  | zero =>
    intro j l hj h12
    have : j = 0 := by omega
    subst this
    rw [lB_00, lW_00]
    exact ⟨rfl, Nat.zero_le _, rfl⟩
  | succ n ih =>
    intro j l hj h12
    match j, l with
    | 0, l => rw [lB_00, lW_00]; exact ⟨rfl, Nat.zero_le _, rfl⟩
    | j + 1, 0 =>
      rw [lB_0, lW_0]
      obtain ⟨a, b, c⟩ := Z (j + 1) h12
      exact ⟨a, by omega, by unfold lO; rw [b, c]; rfl⟩
    | j + 1, l + 1 =>
      by_cases k : lW g gap (j + 1) (l + 1) = g (11 - j) * 16 - 1 + lW g gap (j - gap) l
      · rw [lB_T k]
        obtain ⟨a, b, c⟩ := ih (j - gap) l (by omega) (by omega)
        have X : ∀ i, 12 - j ≤ i → i < 12 → (decide (i = 11 - j) || lB g gap (j - gap) l i) = lB g gap (j - gap) l i := fun i h1 _ => by
          have : ¬ i = 11 - j := by omega
          simp [this]
        obtain ⟨x1, x2, x3⟩ := l_ext (g := g) (gap := gap) j (by omega) X
        obtain ⟨y1, y2, y3⟩ := l_skip (g := g) (gap := gap) (s := lB g gap (j - gap) l) (j' := j - gap) (j - (j - gap)) j (by omega) (by omega) (fun i h1 h2 => lB_out (by omega) h2)
        have m : (decide (11 - j = 11 - j) || lB g gap (j - gap) l (11 - j)) = true := by simp
        unfold lO at c ⊢
        refine ⟨?_, ?_, ?_⟩
        · rw [lA, if_pos m, x3, y3]
          rw [decide_eq_true (by omega), Bool.true_and]
          by_cases q : gap ≤ j
          · exact lA_up _ _ _ (by omega) (by omega) a
          · rw [show j - gap = 0 by omega]; rfl
        · rw [lC, if_pos m, x2, y2]; omega
        · rw [lG, lC, if_pos m, if_pos m, x1, x2, y1, y2, k]; omega
      · rw [lB_F k]
        obtain ⟨a, b, c⟩ := ih j (l + 1) (by omega) (by omega)
        have z : lB g gap j (l + 1) (11 - j) = false := lB_out (by omega) (by omega)
        unfold lO at c ⊢
        refine ⟨?_, ?_, ?_⟩
        · rw [lA, z, if_neg (by simp)]
          exact lA_up _ _ _ (by omega) (by omega) a
        · rw [lC, z, if_neg (by simp)]; omega
        · rw [lG, lC, z, if_neg (by simp), if_neg (by simp)]
          have := lW_s g gap j l
          omega
theorem lB_best (g : Nat → Int) (gap n : Nat) : ∀ j l s, j ≤ n → j ≤ 12 → lA gap s j (12 - j) = true → lC s j ≤ l → lO g s j ≤ lW g gap j l ∧ (lO g s j = lW g gap j l → (∀ i, 12 - j ≤ i → i < 12 → lB g gap j l i = s i) ∨ lH (lB g gap j l) s j = true) := by
  induction n with
  | zero =>
    intro j l s hj h12 _ _
    have : j = 0 := by omega
    subst this
    rw [lW_00]
    exact ⟨by show (0 : Int) ≤ 0; omega, fun _ => Or.inl (fun i h1 h2 => by omega)⟩
  | succ n ih =>
    intro j l s hj h12 hA hC
    match j, l with
    | 0, l => rw [lW_00]; exact ⟨by show (0 : Int) ≤ 0; omega, fun _ => Or.inl (fun i h1 h2 => by omega)⟩
    | j + 1, 0 =>
      have z : ∀ (j : Nat), j ≤ 12 → lC s j = 0 → ∀ i, 12 - j ≤ i → i < 12 → s i = false := by
        intro j
        induction j with
        | zero => intro _ _ i _ _; omega
        | succ j ih2 =>
          intro hj hc i h1 h2
          rw [lC] at hc
          by_cases e : i = 11 - j
          · subst e
            cases q : s (11 - j) with
            | false => rfl
            | true => rw [q] at hc; simp at hc
          · exact ih2 (by omega) (by omega) i (by omega) h2
      have z' := z (j + 1) h12 (by omega)
      obtain ⟨a, b, _⟩ := l_skip (g := g) (gap := gap) (s := s) (j' := 0) (j + 1) (j + 1) (by omega) h12 (fun i h1 h2 => z' i h1 (by omega))
      rw [lW_0, lB_0]
      unfold lO
      rw [a, b]
      exact ⟨by show 16 * (0 : Int) - 0 ≤ 0; omega, fun _ => Or.inl (fun i h1 h2 => (z' i h1 h2).symm)⟩
    | j + 1, l + 1 =>
      have w := lW_s g gap j l
      rw [lA] at hA
      unfold lO
      rw [lG]
      by_cases q : s (11 - j) = true
      · rw [if_pos q] at hA ⊢
        rw [Bool.and_eq_true] at hA
        have zz := lA_zero j _ (by omega) hA.2
        obtain ⟨y1, y2, y3⟩ := l_skip (g := g) (gap := gap) (s := s) (j' := j - gap) (j - (j - gap)) j (by omega) (by omega) (fun i h1 h2 => zz i h1 (by omega) (by omega))
        have A' : lA gap s (j - gap) (12 - (j - gap)) = true := lA_up _ _ _ (by omega) (by omega) ((y3 _).symm.trans hA.2)
        have C' : lC s (j - gap) ≤ l := by
          rw [lC, if_pos q, y2] at hC
          omega
        obtain ⟨i1, i2⟩ := ih (j - gap) l s (by omega) (by omega) A' C'
        rw [lC, if_pos q, y1, y2]
        unfold lO at i1 i2
        refine ⟨by omega, fun e => ?_⟩
        have k : lW g gap (j + 1) (l + 1) = g (11 - j) * 16 - 1 + lW g gap (j - gap) l := by omega
        rw [lB_T k]
        have X : ∀ i, 12 - j ≤ i → i < 12 → (decide (i = 11 - j) || lB g gap (j - gap) l i) = lB g gap (j - gap) l i := fun i h1 _ => by
          have : ¬ i = 11 - j := by omega
          simp [this]
        have bz : ∀ i, 12 - j ≤ i → i < 12 - (j - gap) → lB g gap (j - gap) l i = s i := fun i h1 h2 => by rw [zz i h1 (by omega) (by omega)]; exact lB_out (by omega) h2
        rcases i2 (by omega) with u | u
        · left
          intro i h1 h2
          by_cases e : i = 11 - j
          · subst e; rw [q]; simp
          · refine (X i (by omega) h2).trans ?_
            by_cases f : i < 12 - (j - gap)
            · exact bz i (by omega) f
            · exact u i (by omega) h2
        · right
          rw [lH, if_pos (by rw [q]; simp), lH_ext j (by omega) X, lH_skip (j - (j - gap)) j (by omega) (by omega) bz]
          exact u
      · rw [if_neg q] at hA ⊢
        have A' : lA gap s j (12 - j) = true := lA_up _ _ _ (by omega) (by omega) hA
        rw [lC, if_neg q] at hC ⊢
        obtain ⟨i1, i2⟩ := ih j (l + 1) s (by omega) (by omega) A' (by omega)
        unfold lO at i1 i2
        refine ⟨by omega, fun e => ?_⟩
        by_cases k : lW g gap (j + 1) (l + 1) = g (11 - j) * 16 - 1 + lW g gap (j - gap) l
        · right
          rw [lB_T k, lH, if_neg (by simp at q; rw [q]; simp)]
          simp
        · rw [lB_F k]
          have z : lB g gap j (l + 1) (11 - j) = false := lB_out (by omega) (by omega)
          simp at q
          rcases i2 (by omega) with u | u
          · left
            intro i h1 h2
            by_cases e : i = 11 - j
            · subst e; rw [z, q]
            · exact u i (by omega) h2
          · right
            rw [lH, if_pos (by rw [z, q])]
            exact u
theorem lC_le (s : Nat → Bool) (j : Nat) : lC s j ≤ j := by
  induction j with
  | zero => exact Nat.le_refl _
  | succ j ih => rw [lC]; split <;> omega
theorem lG_b {g : Nat → Int} (hg : ∀ i, i < 12 → -99 ≤ g i ∧ g i ≤ 99) (s : Nat → Bool) (j : Nat) (hj : j ≤ 12) : -99 * (j : Int) ≤ lG g s j ∧ lG g s j ≤ 99 * (j : Int) := by
  induction j with
  | zero => exact ⟨by show -99 * (0 : Int) ≤ 0; omega, by show (0 : Int) ≤ 99 * 0; omega⟩
  | succ j ih =>
    have a := ih (by omega)
    have b := hg (11 - j) (by omega)
    rw [lG]
    push_cast
    split <;> omega
theorem lW_b {g : Nat → Int} {gap : Nat} (hg : ∀ i, i < 12 → -99 ≤ g i ∧ g i ≤ 99) (n : Nat) : ∀ j l, j ≤ n → j ≤ 12 → 0 ≤ lW g gap j l ∧ lW g gap j l ≤ 1600 * (j : Int) := by
  induction n with
  | zero =>
    intro j l hj _
    have : j = 0 := by omega
    subst this
    rw [lW_00]
    omega
  | succ n ih =>
    intro j l hj h12
    match j, l with
    | 0, l => rw [lW_00]; omega
    | j + 1, 0 => rw [lW_0]; omega
    | j + 1, l + 1 =>
      have a := ih j (l + 1) (by omega) (by omega)
      have b := ih (j - gap) l (by omega) (by omega)
      have c := hg (11 - j) (by omega)
      rw [lW_s]
      push_cast
      omega
