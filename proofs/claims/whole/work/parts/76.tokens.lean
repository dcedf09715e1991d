/-! TOKENS, PURE: what a tape is cut into; the words and signs -/
def WBl : List Nat := [104, 111, 117, 114, 32, 112, 104, 97, 115, 101, 32, 115, 105, 122, 101, 32, 115, 116, 101, 112, 115, 32, 107, 105, 110, 100, 32, 104, 101, 105, 103, 104, 116, 32, 97, 116, 32, 115, 105, 108, 118, 101, 114, 32, 98, 101, 100, 32, 109, 111, 111, 100, 32, 119, 104, 111, 32, 115, 104, 105, 110, 101, 115, 32, 112, 97, 121, 115, 32, 107, 105, 99, 107, 115, 32, 99, 101, 108, 108, 32, 98, 101, 97, 115, 116, 32, 108, 111, 100, 103, 101, 32, 111, 117, 116, 32, 108, 101, 97, 100, 32, 111, 102, 32, 116, 111, 32, 109, 101, 97, 110, 32, 119, 105, 116, 104, 32, 108, 105, 103, 104, 116, 32, 105, 102, 32, 116, 104, 101, 110, 32, 101, 108, 115, 101, 32, 101, 110, 100, 32, 111, 114, 32, 97, 110, 100, 32, 110, 111, 116, 32]
def WSl : List Nat := [0, 5, 11, 16, 22, 27, 34, 37, 44, 48, 53, 57, 64, 69, 75, 80, 86, 92, 96, 101, 104, 107, 112, 117, 123, 126, 131, 136, 140, 143, 147, 151]
abbrev WB (i : Nat) : Nat := WBl.getD i 0
abbrev WS (i : Nat) : Nat := WSl.getD i 0
def isB (c : Nat) : Bool := decide (c = 32 ∨ c = 10)
def isL (c : Nat) : Bool := decide ((97 ≤ c ∧ c ≤ 122) ∨ (65 ≤ c ∧ c ≤ 90))
def isD (c : Nat) : Bool := decide (48 ≤ c ∧ c ≤ 57)
/-- the first place from p on that isn't q -/
def rnF (q : Nat → Bool) (b : Nat → Nat) (k : Nat) : Nat → Nat → Nat
  | 0, p => p
  | n + 1, p => if p < k ∧ q (b p) = true then rnF q b k n (p + 1) else p
def rn (q : Nat → Bool) (b : Nat → Nat) (k p : Nat) : Nat := rnF q b k (k - p) p
theorem rn_s {q : Nat → Bool} {b : Nat → Nat} {k p : Nat} (h : p < k ∧ q (b p) = true) : rn q b k p = rn q b k (p + 1) := by
  unfold rn
  rw [show k - p = (k - (p + 1)) + 1 by omega, rnF, if_pos h]
theorem rn_e {q : Nat → Bool} {b : Nat → Nat} {k p : Nat} (h : ¬ (p < k ∧ q (b p) = true)) : rn q b k p = p := by
  unfold rn
  cases e : k - p with
  | zero => rfl
  | succ n => rw [rnF, if_neg h]
theorem rn_b (q : Nat → Bool) (b : Nat → Nat) (k n : Nat) : ∀ p, k ≤ p + n → p ≤ rn q b k p ∧ (p ≤ k → rn q b k p ≤ k) ∧ ¬ (rn q b k p < k ∧ q (b (rn q b k p)) = true) := by
  induction n with
  | zero =>
    intro p hp
    have c : ¬ (p < k ∧ q (b p) = true) := fun h => by omega
    rw [rn_e c]
    exact ⟨Nat.le_refl _, fun h => h, c⟩
  | succ n ih =>
    intro p hp
    by_cases c : p < k ∧ q (b p) = true
    · obtain ⟨a, d, e⟩ := ih (p + 1) (by omega)
      rw [rn_s c]
      exact ⟨by omega, fun _ => d (by omega), e⟩
    · rw [rn_e c]
      exact ⟨Nat.le_refl _, fun h => h, c⟩
theorem rn_ge (q : Nat → Bool) (b : Nat → Nat) (k p : Nat) : p ≤ rn q b k p := (rn_b q b k k p (by omega)).1
theorem rn_le {q : Nat → Bool} {b : Nat → Nat} {k p : Nat} (h : p ≤ k) : rn q b k p ≤ k := (rn_b q b k k p (by omega)).2.1 h
theorem rn_st (q : Nat → Bool) (b : Nat → Nat) (k p : Nat) : ¬ (rn q b k p < k ∧ q (b (rn q b k p)) = true) := (rn_b q b k k p (by omega)).2.2
/-- a number's figures from p on, with v before them -/
def nvF (b : Nat → Nat) (k : Nat) : Nat → Nat → Nat → Nat
  | 0, _, v => v
  | n + 1, p, v => if p < k ∧ isD (b p) = true then nvF b k n (p + 1) (min 10000 (v * 10 + b p - 48)) else v
def nv (b : Nat → Nat) (k p v : Nat) : Nat := nvF b k (k - p) p v
theorem nv_s {b : Nat → Nat} {k p v : Nat} (h : p < k ∧ isD (b p) = true) : nv b k p v = nv b k (p + 1) (min 10000 (v * 10 + b p - 48)) := by
  unfold nv
  rw [show k - p = (k - (p + 1)) + 1 by omega, nvF, if_pos h]
theorem nv_e {b : Nat → Nat} {k p v : Nat} (h : ¬ (p < k ∧ isD (b p) = true)) : nv b k p v = v := by
  unfold nv
  cases e : k - p with
  | zero => rfl
  | succ n => rw [nvF, if_neg h]
theorem nv_le (b : Nat → Nat) (k n : Nat) : ∀ p v, k ≤ p + n → v ≤ 10000 → nv b k p v ≤ 10000 := by
  induction n with
  | zero => intro p v hp hv; rw [nv_e (fun h => by omega)]; exact hv
  | succ n ih =>
    intro p v hp hv
    by_cases c : p < k ∧ isD (b p) = true
    · rw [nv_s c]; exact ih _ _ (by omega) (by omega)
    · rw [nv_e c]; exact hv
/-- word w: how long, and is it what lies at p .. q? -/
abbrev wn (w : Nat) : Nat := WS (w + 1) - 1 - WS w
def isW (b : Nat → Nat) (p q w : Nat) : Bool := decide (wn w = q - p) && (List.range (wn w)).all (fun i => decide (WB (WS w + i) = b (p + i)))
def wcF (b : Nat → Nat) (p q : Nat) : Nat → Nat → Nat
  | 0, _ => 47
  | n + 1, w => if isW b p q w = true then w else wcF b p q n (w + 1)
def wc (b : Nat → Nat) (p q : Nat) : Nat := wcF b p q 31 0
theorem wcF_lt (b : Nat → Nat) (p q n : Nat) : ∀ w, w + n = 31 → wcF b p q n w < 48 := by
  induction n with
  | zero => intro w _; show 47 < 48; omega
  | succ n ih => intro w hw; rw [wcF]; split; omega; exact ih _ (by omega)
def sgC (c : Nat) : Nat := if c = 60 then 32 else if c = 62 then 33 else if c = 61 then 34 else if c = 35 then 35 else if c = 43 then 36 else if c = 45 then 37 else if c = 42 then 38 else if c = 47 then 39 else if c = 40 then 40 else if c = 41 then 41 else if c = 59 then 42 else 47
/-- a token at p: code, number, where it ends -/
def tk (b : Nat → Nat) (k p : Nat) : Nat × Nat × Nat := if k ≤ p then (46, 0, p) else if isL (b p) = true then (wc b p (rn isL b k p), 0, rn isL b k p) else if isD (b p) = true then (45, nv b k p 0, rn isD b k p) else if (b p = 60 ∨ b p = 62) ∧ p + 1 < k ∧ b (p + 1) = 61 then (sgC (b p) + 11, 0, p + 2) else (sgC (b p), 0, p + 1)
/-- the place of token i -/
def tP (b : Nat → Nat) (k : Nat) : Nat → Nat
  | 0 => rn isB b k 0
  | i + 1 => rn isB b k (tk b k (tP b k i)).2.2
theorem sgC_lt (c : Nat) : sgC c < 48 := by unfold sgC; repeat' split
                                            all_goals omega
theorem tk_lt (b : Nat → Nat) (k p : Nat) : (tk b k p).1 < 48 ∧ (tk b k p).2.1 ≤ 10000 ∧ (p < k → p < (tk b k p).2.2 ∧ (tk b k p).2.2 ≤ k) := by
  unfold tk
  split
  · exact ⟨by show 46 < 48; omega, by show 0 ≤ 10000; omega, fun h => by omega⟩
  · rename_i c0
    split
    · rename_i c
      refine ⟨wcF_lt _ _ _ _ _ rfl, Nat.zero_le _, fun h => ⟨?_, rn_le (by omega)⟩⟩
      show p < rn isL b k p
      rw [rn_s ⟨h, c⟩]
      have := rn_ge isL b k (p + 1); omega
    · split
      · rename_i c
        refine ⟨by show 45 < 48; omega, nv_le b k k _ _ (by omega) (by omega), fun h => ⟨?_, rn_le (by omega)⟩⟩
        show p < rn isD b k p
        rw [rn_s ⟨h, c⟩]
        have := rn_ge isD b k (p + 1); omega
      · split
        · rename_i c
          refine ⟨?_, Nat.zero_le _, fun h => ⟨?_, ?_⟩⟩
          · rcases c.1 with e | e <;> (show sgC (b p) + 11 < 48; rw [e]; decide)
          · show p < p + 2; omega
          · show p + 2 ≤ k; omega
        · refine ⟨sgC_lt _, Nat.zero_le _, fun h => ⟨?_, ?_⟩⟩
          · show p < p + 1; omega
          · show p + 1 ≤ k; omega
theorem tP_le (b : Nat → Nat) (k : Nat) : ∀ i, tP b k i ≤ k := by
  intro i
  induction i with
  | zero => exact rn_le (by omega)
  | succ i ih =>
    rw [tP]
    apply rn_le
    by_cases c : tP b k i < k
    · exact ((tk_lt b k (tP b k i)).2.2 c).2
    · unfold tk; rw [if_pos (by omega)]; exact ih
/-! the constants: words, signs, names, where words start -/
def KI (h : Nat → Nat → Int32) : Prop := h 1 = (fun j => msNames.getD j 0) ∧ h 2 1 = 0 ∧ h 3 = (fun j => msWords.getD j 0) ∧ h 4 1 = 0 ∧ h 5 = (fun j => msSigns.getD j 0) ∧ ∀ j, j < 32 → h 71 j = nI (WS j)
theorem ms_wb : ∀ j, j < 151 → msWords.getD j 0 = nI (WB j) ∧ WB j < 128 := by decide +kernel
