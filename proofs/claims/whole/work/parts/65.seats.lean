/-! SEATS, PURE: the most and in how many ways; cell by cell is row by row -/
/-- a pair: one more than how many (0 for none), and in how many ways -/
def wA (x y : Nat × Nat) : Nat × Nat := if x.1 < y.1 then y else if y.1 < x.1 then x else (x.1, x.2 + y.2)
def wH (k : Nat) (x : Nat × Nat) : Nat × Nat := if x.1 = 0 then x else (x.1 + k, x.2)
theorem wA_1 (x y : Nat × Nat) : (wA x y).1 = max x.1 y.1 := by
  unfold wA
  split
  · omega
  · split
    · omega
    · show x.1 = _; omega
theorem wA_2 (x y : Nat × Nat) : (wA x y).2 = (if y.1 ≤ x.1 then x.2 else 0) + (if x.1 ≤ y.1 then y.2 else 0) := by
  unfold wA
  by_cases c1 : x.1 < y.1
  · rw [if_pos c1, if_neg (by omega), if_pos (by omega)]; omega
  · by_cases c2 : y.1 < x.1
    · rw [if_neg c1, if_pos c2, if_pos (by omega), if_neg (by omega)]; omega
    · rw [if_neg c1, if_neg c2, if_pos (by omega), if_pos (by omega)]
theorem wA_comm (x y : Nat × Nat) : wA x y = wA y x := by
  apply Prod.ext
  · rw [wA_1, wA_1]; omega
  · rw [wA_2, wA_2]; omega
theorem wA_assoc (x y z : Nat × Nat) : wA (wA x y) z = wA x (wA y z) := by
  apply Prod.ext
  · rw [wA_1, wA_1, wA_1, wA_1]; omega
  · rw [wA_2, wA_2, wA_1, wA_2, wA_2, wA_1]
    repeat' split
    all_goals omega
theorem wA_0 (x : Nat × Nat) : wA x (0, 0) = x := by
  apply Prod.ext
  · rw [wA_1]; show max x.1 0 = x.1; omega
  · rw [wA_2]
    show (if 0 ≤ x.1 then x.2 else 0) + (if x.1 ≤ 0 then 0 else 0) = x.2
    simp
theorem wA_0l (x : Nat × Nat) : wA (0, 0) x = x := by rw [wA_comm, wA_0]
theorem wH_0 (x : Nat × Nat) : wH 0 x = x := by unfold wH; split <;> rfl
theorem wH_z (k : Nat) : wH k (0, 0) = (0, 0) := rfl
theorem wH_A (k : Nat) (x y : Nat × Nat) : wH k (wA x y) = wA (wH k x) (wH k y) := by
  unfold wH wA
  by_cases c1 : x.1 = 0 <;> by_cases c2 : y.1 = 0 <;> simp [c1, c2] <;> (repeat' split) <;> first | omega | rfl | (exfalso; omega) | simp_all
theorem wH_H (k j : Nat) (x : Nat × Nat) : wH k (wH j x) = wH (j + k) x := by
  unfold wH
  by_cases c : x.1 = 0
  · simp [c]
  · simp [c]; omega
def wS (F : Nat → Nat × Nat) : List Nat → Nat × Nat
  | [] => (0, 0)
  | p :: l => wA (F p) (wS F l)
theorem wS_app (F : Nat → Nat × Nat) (l m : List Nat) : wS F (l ++ m) = wA (wS F l) (wS F m) := by
  induction l with
  | nil => rw [List.nil_append]; exact (wA_0l _).symm
  | cons p l ih => rw [List.cons_append, wS, wS, ih, wA_assoc]
theorem wS_perm {F : Nat → Nat × Nat} {l m : List Nat} (h : l.Perm m) : wS F l = wS F m := by
  induction h with
  | nil => rfl
  | cons a _ ih => rw [wS, wS, ih]
  | swap a b l => rw [wS, wS, wS, wS, ← wA_assoc, ← wA_assoc, wA_comm (F b)]
  | trans _ _ i1 i2 => exact i1.trans i2
theorem wS_map (F : Nat → Nat × Nat) (g : Nat → Nat) (l : List Nat) : wS F (l.map g) = wS (fun k => F (g k)) l := by
  induction l with
  | nil => rfl
  | cons p l ih => rw [List.map_cons, wS, wS, ih]
theorem wS_fil (F : Nat → Nat × Nat) (c : Nat → Bool) (l : List Nat) : wS F (l.filter c) = wS (fun k => if c k = true then F k else (0, 0)) l := by
  induction l with
  | nil => rfl
  | cons p l ih =>
    by_cases q : c p = true
    · rw [List.filter_cons_of_pos q, wS, wS, ih, if_pos q]
    · rw [List.filter_cons_of_neg q, wS, ih, if_neg q, wA_0l]
theorem wS_ext {F G : Nat → Nat × Nat} {l : List Nat} (h : ∀ k ∈ l, F k = G k) : wS F l = wS G l := by
  induction l with
  | nil => rfl
  | cons p l ih => rw [wS, wS, h p (by simp), ih (fun k hk => h k (by simp [hk]))]
def wP (F : Nat → Nat × Nat) : Nat → Nat × Nat
  | 0 => (0, 0)
  | n + 1 => wA (wP F n) (F n)
theorem wP_S (F : Nat → Nat × Nat) (n : Nat) : wP F n = wS F (List.range n) := by
  induction n with
  | zero => rfl
  | succ n ih => rw [List.range_succ, wS_app, wP, ih]; show _ = wA _ (wA (F n) (0, 0)); rw [wA_0]
theorem wP_ext {F G : Nat → Nat × Nat} {n : Nat} (h : ∀ k, k < n → F k = G k) : wP F n = wP G n := by
  induction n with
  | zero => rfl
  | succ n ih => rw [wP, wP, ih (fun k hk => h k (by omega)), h n (by omega)]
theorem wP_H (k : Nat) (c : Nat → Prop) [DecidablePred c] (F : Nat → Nat × Nat) (n : Nat) : wP (fun i => if c i then wH k (F i) else (0, 0)) n = wH k (wP (fun i => if c i then F i else (0, 0)) n) := by
  induction n with
  | zero => rfl
  | succ n ih =>
    rw [wP, wP, ih, wH_A]
    split <;> rfl
theorem wP_2 {F : Nat → Nat × Nat} {b n : Nat} (h : ∀ k, k < n → (F k).2 ≤ b) : (wP F n).2 ≤ n * b := by
  induction n with
  | zero => exact Nat.zero_le _
  | succ n ih =>
    have a := ih (fun k hk => h k (by omega))
    have c := h n (by omega)
    rw [wP, wA_2, Nat.succ_mul]
    split <;> split <;> omega
theorem wP_1 {F : Nat → Nat × Nat} {b n : Nat} (h : ∀ k, k < n → (F k).1 ≤ b) : (wP F n).1 ≤ b := by
  induction n with
  | zero => exact Nat.zero_le _
  | succ n ih =>
    have a := ih (fun k hk => h k (by omega))
    have c := h n (by omega)
    rw [wP, wA_1]
    omega
abbrev wz (x : Nat × Nat) : Prop := x.1 = 0 ↔ x.2 = 0
theorem wz_A {x y : Nat × Nat} (hx : wz x) (hy : wz y) : wz (wA x y) := by
  unfold wz at *
  rw [wA_1, wA_2]
  split <;> split <;> omega
theorem wz_H {k : Nat} {x : Nat × Nat} (hx : wz x) : wz (wH k x) := by
  unfold wH
  split
  · exact hx
  · show x.1 + k = 0 ↔ x.2 = 0
    have := hx
    unfold wz at this
    omega
theorem wz_P {F : Nat → Nat × Nat} {n : Nat} (h : ∀ k, k < n → wz (F k)) : wz (wP F n) := by
  induction n with
  | zero => exact ⟨fun _ => rfl, fun _ => rfl⟩
  | succ n ih => exact wz_A (ih (fun k hk => h k (by omega))) (h n (by omega))
def gOK (p : Nat → Bool) (c s : Nat) : Bool := p c && !(decide (c % 6 ≠ 0) && decide (s % 2 = 1))
/-- cell by cell: s the last six choices, the newest lowest -/
def gS (p : Nat → Bool) : Nat → Nat → Nat × Nat
  | 0, s => if s = 0 then (1, 1) else (0, 0)
  | c + 1, s => if s % 2 = 0 then wA (gS p c (s / 2)) (gS p c (s / 2 + 32)) else if gOK p c (s / 2) = true then wH 1 (gS p c (s / 2)) else (0, 0)
def sU : Nat → Nat → List Nat
  | 0, s => [s]
  | j + 1, s => if s % 2 = 0 then sU j (s / 2) ++ sU j (s / 2 + 32) else if j ≠ 0 ∧ (s / 2) % 2 = 1 then [] else sU j (s / 2)
def sK (q : Nat → Bool) : Nat → Nat → Bool
  | 0, _ => true
  | j + 1, s => (decide (s % 2 = 0) || q j) && sK q j (s / 2)
def sN : Nat → Nat → Nat
  | 0, _ => 0
  | j + 1, s => s % 2 + sN j (s / 2)
theorem sK_add (q : Nat → Bool) (j : Nat) : ∀ s m, sK q j (s + 2 ^ j * m) = sK q j s := by
  induction j with
  | zero => intro s m; rfl
  | succ j ih =>
    intro s m
    have e : 2 ^ (j + 1) * m = 2 * (2 ^ j * m) := by rw [Nat.pow_succ, Nat.mul_comm (2 ^ j) 2, Nat.mul_assoc]
    rw [sK, sK, e, show (s + 2 * (2 ^ j * m)) % 2 = s % 2 by omega, show (s + 2 * (2 ^ j * m)) / 2 = s / 2 + 2 ^ j * m by omega, ih]
theorem sN_add (j : Nat) : ∀ s m, sN j (s + 2 ^ j * m) = sN j s := by
  induction j with
  | zero => intro s m; rfl
  | succ j ih =>
    intro s m
    have e : 2 ^ (j + 1) * m = 2 * (2 ^ j * m) := by rw [Nat.pow_succ, Nat.mul_comm (2 ^ j) 2, Nat.mul_assoc]
    rw [sN, sN, e, show (s + 2 * (2 ^ j * m)) % 2 = s % 2 by omega, show (s + 2 * (2 ^ j * m)) / 2 = s / 2 + 2 ^ j * m by omega, ih]
theorem p5 {j : Nat} (h : j ≤ 5) : ∃ m, 32 = 2 ^ j * m := by
  have q : ∀ j, j < 6 → 32 = 2 ^ j * 2 ^ (5 - j) := by decide
  exact ⟨_, q j (by omega)⟩
theorem gS_row (p : Nat → Bool) (r j : Nat) (hj : j ≤ 6) : ∀ s, gS p (6 * r + j) s = if sK (fun i => p (6 * r + i)) j s = true then wH (sN j s) (wS (gS p (6 * r)) (sU j s)) else (0, 0) := by
  induction j with
  | zero => intro s; show gS p (6 * r) s = if true = true then wH 0 (wA (gS p (6 * r) s) (0, 0)) else (0, 0); rw [if_pos rfl, wH_0, wA_0]
  | succ j ih =>
    intro s
    obtain ⟨m, em⟩ := p5 (j := j) (by omega)
    rw [← Nat.add_assoc, gS, ih (by omega), ih (by omega), sK, sN, sU]
    by_cases c : s % 2 = 0
    · rw [if_pos c, if_pos c, em, sK_add, sN_add, c, Nat.zero_add]
      simp only [decide_true, Bool.true_or, Bool.true_and]
      by_cases k : sK (fun i => p (6 * r + i)) j (s / 2) = true
      · rw [if_pos k, if_pos k, if_pos k, wS_app, wH_A]
      · rw [if_neg k, if_neg k, if_neg k]; rfl
    · have c1 : s % 2 = 1 := by omega
      have e1 : (6 * r + j) % 6 = j := by omega
      rw [if_neg c, if_neg c]
      unfold gOK
      rw [e1]
      simp only [c, decide_false, Bool.false_or, c1]
      by_cases k0 : p (6 * r + j) = true
      · by_cases k1 : j ≠ 0 ∧ s / 2 % 2 = 1
        · rw [if_pos k1]
          simp [k0, k1, wS, wH]
        · rw [if_neg k1, if_pos (by rw [k0]; simp; omega)]
          rw [k0, Bool.or_true, Bool.true_and]
          by_cases k : sK (fun i => p (6 * r + i)) j (s / 2) = true
          · rw [if_pos k, if_pos k, wH_H, Nat.add_comm]
          · rw [if_neg k, if_neg k]; rfl
      · have k0' : p (6 * r + j) = false := by simpa using k0
        simp [k0']
/-- the six bits backwards -/
def rv (m : Nat) : Nat := m % 2 * 32 + m / 2 % 2 * 16 + m / 4 % 2 * 8 + m / 8 % 2 * 4 + m / 16 % 2 * 2 + m / 32 % 2
theorem rv_U : ∀ m, m < 64 → (sU 6 (rv m)).isPerm (if m &&& (2 * m) = 0 then ((List.range 64).filter (fun k => decide (m &&& k = 0))).map rv else []) = true := by decide +kernel
theorem rv_N : ∀ m, m < 64 → sN 6 (rv m) = pcF 31 m := by decide +kernel
theorem rv_all : (List.range 64).isPerm ((List.range 64).map rv) = true := by decide +kernel
theorem rv_lt : ∀ m, m < 64 → rv m < 64 := by decide +kernel
theorem rv_z : ∀ m, m < 64 → (rv m = 0 ↔ m = 0) := by decide +kernel
theorem rv_b : ∀ m, m < 64 → (rv m % 2 = m / 2 ^ 5 % 2 ∧ rv m / 2 % 2 = m / 2 ^ 4 % 2 ∧ rv m / 2 / 2 % 2 = m / 2 ^ 3 % 2 ∧ rv m / 2 / 2 / 2 % 2 = m / 2 ^ 2 % 2 ∧ rv m / 2 / 2 / 2 / 2 % 2 = m / 2 ^ 1 % 2 ∧ rv m / 2 / 2 / 2 / 2 / 2 % 2 = m / 2 ^ 0 % 2) := by decide +kernel
theorem rv_K (q : Nat → Bool) (m : Nat) (hm : m < 64) : sK q 6 (rv m) = true ↔ ∀ j, j < 6 → (m.testBit j && !q j) = false := by
  obtain ⟨b5, b4, b3, b2, b1, b0⟩ := rv_b m hm
  have e : sK q 6 (rv m) = ((decide (rv m % 2 = 0) || q 5) && ((decide (rv m / 2 % 2 = 0) || q 4) && ((decide (rv m / 2 / 2 % 2 = 0) || q 3) && ((decide (rv m / 2 / 2 / 2 % 2 = 0) || q 2) && ((decide (rv m / 2 / 2 / 2 / 2 % 2 = 0) || q 1) && ((decide (rv m / 2 / 2 / 2 / 2 / 2 % 2 = 0) || q 0) && true)))))) := rfl
  have t : ∀ j, (decide (m / 2 ^ j % 2 = 0) || q j) = true ↔ (m.testBit j && !q j) = false := by
    intro j
    rw [Nat.testBit_eq_decide_div_mod_eq]
    have : m / 2 ^ j % 2 = 0 ∨ m / 2 ^ j % 2 = 1 := by omega
    rcases this with k | k <;> simp [k]
  rw [e, b5, b4, b3, b2, b1, b0]
  simp only [Bool.and_eq_true, t]
  constructor
  · rintro ⟨a5, a4, a3, a2, a1, a0, _⟩ j hj
    match j, hj with
    | 0, _ => exact a0
    | 1, _ => exact a1
    | 2, _ => exact a2
    | 3, _ => exact a3
    | 4, _ => exact a4
    | 5, _ => exact a5
  · intro a
    exact ⟨a 5 (by omega), a 4 (by omega), a 3 (by omega), a 2 (by omega), a 1 (by omega), a 0 (by omega), trivial⟩
/-- may the row m be taken? -/
abbrev rwOK (p : Nat → Bool) (r m : Nat) : Prop := (∀ j, j < 6 → (m.testBit j && !p (6 * r + j)) = false) ∧ m &&& (2 * m) = 0
/-- row by row: m the row's choices -/
def rS (p : Nat → Bool) : Nat → Nat → Nat × Nat
  | 0, m => if m = 0 then (1, 1) else (0, 0)
  | r + 1, m => if rwOK p r m then wP (fun k => if m &&& k = 0 then wH (pcF 31 m) (rS p r k) else (0, 0)) 64 else (0, 0)
theorem rS_eq (p : Nat → Bool) (r : Nat) : ∀ m, m < 64 → rS p r m = gS p (6 * r) (rv m) := by
  induction r with
  | zero =>
    intro m hm
    have := rv_z m hm
    show (if m = 0 then ((1, 1) : Nat × Nat) else (0, 0)) = if rv m = 0 then (1, 1) else (0, 0)
    simp [this]
  | succ r ih =>
    intro m hm
    have K := rv_K (fun i => p (6 * r + i)) m hm
    have P := List.isPerm_iff.mp (rv_U m hm)
    rw [rS, show 6 * (r + 1) = 6 * r + 6 by omega, gS_row p r 6 (by omega), rv_N m hm, wS_perm P]
    by_cases k : sK (fun i => p (6 * r + i)) 6 (rv m) = true
    · rw [if_pos k]
      by_cases d : m &&& (2 * m) = 0
      · rw [if_pos ⟨K.mp k, d⟩, if_pos d, wS_map, wS_fil, ← wP_S, wP_H]
        congr 1
        refine wP_ext fun i hi => ?_
        simp only [decide_eq_true_eq]
        split
        · exact ih i hi
        · rfl
      · rw [if_neg (fun h => d h.2), if_neg d]; rfl
    · rw [if_neg k, if_neg (fun h => k (K.mpr h.1))]
theorem gS_tot (p : Nat → Bool) : wP (gS p 30) 64 = wP (rS p 5) 64 := by
  rw [wP_S, wS_perm (List.isPerm_iff.mp rv_all), wS_map, ← wP_S]
  exact wP_ext fun k hk => (rS_eq p 5 k hk).symm
theorem gS_z (p : Nat → Bool) (c : Nat) : ∀ s, wz (gS p c s) := by
  induction c with
  | zero => intro s; rw [gS]; split <;> decide
  | succ c ih =>
    intro s
    rw [gS]
    split
    · exact wz_A (ih _) (ih _)
    · split
      · exact wz_H (ih _)
      · decide
theorem gS_1 (p : Nat → Bool) (c : Nat) : ∀ s, (gS p c s).1 ≤ c + 1 := by
  induction c with
  | zero => intro s; rw [gS]; split <;> decide
  | succ c ih =>
    intro s
    rw [gS]
    have a := ih (s / 2)
    have b := ih (s / 2 + 32)
    split
    · rw [wA_1]; omega
    · split
      · unfold wH; split
        · omega
        · show _ + 1 ≤ _; omega
      · exact Nat.zero_le _
theorem wH_2 (k : Nat) (x : Nat × Nat) : (wH k x).2 = x.2 := by unfold wH; split <;> rfl
theorem wA_2l (x y : Nat × Nat) : (wA x y).2 ≤ x.2 + y.2 := by rw [wA_2]; split <;> split <;> omega
theorem gS_2 (p : Nat → Bool) (c : Nat) : ∀ s, (gS p c s).2 ≤ 2 ^ (c - 6) ∧ (c ≤ 6 → 2 ^ c ≤ s → (gS p c s).2 = 0) := by
  induction c with
  | zero =>
    intro s
    rw [gS]
    refine ⟨by split <;> decide, fun _ h => ?_⟩
    rw [if_neg (by have : 2 ^ 0 = 1 := rfl; omega)]
  | succ c ih =>
    intro s
    rw [gS]
    obtain ⟨a1, a2⟩ := ih (s / 2)
    obtain ⟨b1, b2⟩ := ih (s / 2 + 32)
    have l := wA_2l (gS p c (s / 2)) (gS p c (s / 2 + 32))
    have e : 2 ^ (c + 1) = 2 * 2 ^ c := by rw [Nat.pow_succ]; omega
    by_cases hc : c < 6
    · have q : ∀ c, c < 6 → 2 ^ c ≤ 32 ∧ 2 ^ (c + 1 - 6) = 1 ∧ 2 ^ (c - 6) = 1 := by decide
      obtain ⟨q1, q2, q3⟩ := q c hc
      have b := b2 (by omega) (by omega)
      rw [q2]
      rw [q3] at a1
      refine ⟨?_, fun _ h => ?_⟩
      · split
        · omega
        · split
          · rw [wH_2]; exact a1
          · exact Nat.zero_le _
      · have a := a2 (by omega) (by omega)
        split
        · omega
        · split
          · rw [wH_2]; exact a
          · rfl
    · have e2 : 2 ^ (c + 1 - 6) = 2 * 2 ^ (c - 6) := by rw [show c + 1 - 6 = (c - 6) + 1 by omega, Nat.pow_succ]; omega
      refine ⟨?_, fun h => by omega⟩
      rw [e2]
      split
      · omega
      · split
        · rw [wH_2]; omega
        · exact Nat.zero_le _
theorem gS_24 (p : Nat → Bool) {c : Nat} (hc : c ≤ 30) (s : Nat) : (gS p c s).2 ≤ 16777216 := by
  have q : ∀ c, c < 31 → 2 ^ (c - 6) ≤ 16777216 := by decide
  have := (gS_2 p c s).1
  have := q c (by omega)
  omega
/-- the next row of states behind st states -/
def pG (f : Nat → Nat × Nat) (ok : Nat → Bool) (st s : Nat) : Nat × Nat := if s % 2 = 0 then wA (if s / 2 < st then f (s / 2) else (0, 0)) (if s / 2 + 32 < st then f (s / 2 + 32) else (0, 0)) else if s / 2 < st ∧ ok (s / 2) = true then wH 1 (f (s / 2)) else (0, 0)
theorem pG_0 (f : Nat → Nat × Nat) (ok : Nat → Bool) (s : Nat) : pG f ok 0 s = (0, 0) := by
  unfold pG
  simp [wA]
theorem pG_64 (p : Nat → Bool) (c s : Nat) (hs : s < 64) : pG (gS p c) (gOK p c) 64 s = gS p (c + 1) s := by
  unfold pG
  rw [gS]
  have e1 : s / 2 < 64 := by omega
  have e2 : s / 2 + 32 < 64 := by omega
  simp [e1, e2]
theorem pG_s {f : Nat → Nat × Nat} {ok : Nat → Bool} {st s : Nat} (hst : st < 64) (hs : s < 64) : pG f ok (st + 1) s = if s = 2 * st % 64 then wA (pG f ok st s) (f st) else if s = 2 * st % 64 + 1 ∧ (st < 32 ∧ ok st = true) then wA (pG f ok st s) (wH 1 (f st)) else pG f ok st s := by
  unfold pG
  by_cases c : s % 2 = 0
  · rw [if_pos c, if_pos c]
    by_cases d : s = 2 * st % 64
    · rw [if_pos d]
      by_cases e : st < 32
      · have e1 : s / 2 = st := by omega
        rw [e1, if_pos (by omega), if_neg (by omega), if_neg (by omega), if_neg (by omega), wA_0, wA_0, wA_0l]
      · have e1 : s / 2 + 32 = st := by omega
        rw [e1, if_pos (by omega), if_pos (by omega), if_pos (by omega), if_neg (by omega), wA_0]
    · rw [if_neg d, if_neg (show ¬ (s = 2 * st % 64 + 1 ∧ (st < 32 ∧ ok st = true)) from fun h => by omega)]
      have e1 : (s / 2 < st + 1) = (s / 2 < st) := propext (by omega)
      have e2 : (s / 2 + 32 < st + 1) = (s / 2 + 32 < st) := propext (by omega)
      simp only [e1, e2]
  · rw [if_neg c, if_neg c, if_neg (show s ≠ 2 * st % 64 by omega)]
    by_cases d : s / 2 = st
    · rw [d]
      by_cases k : ok st = true
      · rw [if_pos ⟨by omega, k⟩, if_pos ⟨by omega, by omega, k⟩, if_neg (show ¬ (st < st ∧ ok st = true) from fun h => by omega), wA_0l]
      · rw [if_neg (fun h => k h.2), if_neg (fun h => k h.2.2), if_neg (fun h => k h.2)]
    · have e1 : (s / 2 < st + 1) = (s / 2 < st) := propext (by omega)
      rw [if_neg (show ¬ (s = 2 * st % 64 + 1 ∧ (st < 32 ∧ ok st = true)) from fun h => by omega)]
      simp only [e1]
theorem pG_z {f : Nat → Nat × Nat} {ok : Nat → Bool} (hf : ∀ s, wz (f s)) (st s : Nat) : wz (pG f ok st s) := by
  unfold pG
  split
  · refine wz_A ?_ ?_ <;> split <;> first | exact hf _ | decide
  · split
    · exact wz_H (hf _)
    · decide
theorem pG_1 {f : Nat → Nat × Nat} {ok : Nat → Bool} {b : Nat} (hf : ∀ s, (f s).1 ≤ b) (st s : Nat) : (pG f ok st s).1 ≤ b + 1 := by
  have a := hf (s / 2)
  have c := hf (s / 2 + 32)
  unfold pG
  split
  · rw [wA_1]
    split <;> split <;> (try dsimp only) <;> omega
  · split
    · unfold wH; split
      · omega
      · show _ + 1 ≤ _; omega
    · exact Nat.zero_le _
theorem pG_2 {f : Nat → Nat × Nat} {ok : Nat → Bool} {b : Nat} (hf : ∀ s, (f s).2 ≤ b) (st s : Nat) : (pG f ok st s).2 ≤ 2 * b := by
  have a := hf (s / 2)
  have c := hf (s / 2 + 32)
  unfold pG
  split
  · refine Nat.le_trans (wA_2l _ _) ?_
    split <;> split <;> (try dsimp only) <;> omega
  · split
    · rw [wH_2]; omega
    · exact Nat.zero_le _
/-- the ways of those that have k -/
def wC (F : Nat → Nat × Nat) (k : Nat) : Nat → Nat
  | 0 => 0
  | n + 1 => wC F k n + (if (F n).1 = k then (F n).2 else 0)
theorem wC_P (F : Nat → Nat × Nat) (n : Nat) : ∀ k, (wP F n).1 ≤ k → wC F k n = if k = (wP F n).1 then (wP F n).2 else 0 := by
  induction n with
  | zero => intro k _; rw [wC]; show 0 = if k = 0 then 0 else 0; simp
  | succ n ih =>
    intro k hk
    rw [wP, wA_1] at hk
    rw [wC, ih k (by omega), wP, wA_1, wA_2]
    repeat' split
    all_goals omega
theorem wC_le {F : Nat → Nat × Nat} {b k n : Nat} (h : ∀ k, k < n → (F k).2 ≤ b) : wC F k n ≤ n * b := by
  induction n with
  | zero => exact Nat.zero_le _
  | succ n ih =>
    have a := ih (fun k hk => h k (by omega))
    have c := h n (by omega)
    rw [wC, Nat.succ_mul]
    split <;> omega
theorem wC_top {F : Nat → Nat × Nat} {n : Nat} (h : wz (wP F n)) : wC F ((wP F n).1 - 1 + 1) n = (wP F n).2 := by
  rw [wC_P F n _ (by omega)]
  unfold wz at h
  split <;> omega
