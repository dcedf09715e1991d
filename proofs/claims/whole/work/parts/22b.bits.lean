/-! BITS: an int as a set of small numbers -/
def tb (x : Int32) (k : Nat) : Bool := x.toBitVec.getLsbD k
theorem tb_ext {x y : Int32} (h : ∀ j, j < 32 → tb x j = tb y j) : x = y := Int32.toBitVec_inj.1 (BitVec.eq_of_getLsbD_eq fun i hi => h i hi)
theorem tb_or (x y : Int32) (j : Nat) : tb (x ||| y) j = (tb x j || tb y j) := by simp [tb]
theorem tb_and (x y : Int32) (j : Nat) : tb (x &&& y) j = (tb x j && tb y j) := by simp [tb]
theorem tb_xor (x y : Int32) (j : Nat) : tb (x ^^^ y) j = (tb x j ^^ tb y j) := by simp [tb]
theorem tb_nI (n j : Nat) : tb (nI n) j = (decide (j < 32) && n.testBit j) := BitVec.getLsbD_ofNat 32 n j
theorem tb_m1 {j : Nat} (h : j < 32) : tb (-1) j = true := by
  have q : ∀ j, j < 32 → tb (-1) j = true := by decide +kernel
  exact q j h
theorem tb_0 (j : Nat) : tb 0 j = false := by simp [tb]
theorem tb_out (x : Int32) {j : Nat} (h : 32 ≤ j) : tb x j = false := BitVec.getLsbD_of_ge _ _ h
theorem sh5 : ∀ n, n < 32 → ((nI n &&& 31).toBitVec.smod 32).toNat = n := by decide +kernel
theorem tb_shl (x : Int32) {k j : Nat} (hk : k < 32) : tb (x <<< (nI k &&& 31)) j = (decide (j < 32) && !decide (j < k) && tb x (j - k)) := by
  have e : (x <<< (nI k &&& 31)).toBitVec = x.toBitVec <<< ((nI k &&& 31).toBitVec.smod 32).toNat := rfl
  rw [tb, e, sh5 k hk, BitVec.getLsbD_shiftLeft]
  rfl
theorem tb_shr (x : Int32) {k j : Nat} (hk : k < 32) : tb (x >>> (nI k &&& 31)) j = (!decide (32 ≤ j) && if k + j < 32 then tb x (k + j) else x.toBitVec.msb) := by
  have e : (x >>> (nI k &&& 31)).toBitVec = x.toBitVec.sshiftRight ((nI k &&& 31).toBitVec.smod 32).toNat := rfl
  rw [tb, e, sh5 k hk, BitVec.getLsbD_sshiftRight]
  rfl
theorem tb_msb (x : Int32) : x.toBitVec.msb = tb x 31 := by
  rw [BitVec.msb_eq_getLsbD_last]
  rfl
theorem tb_shl1 {k j : Nat} (hk : k < 32) (hj : j < 32) : tb (nI 1 <<< (nI k &&& 31)) j = decide (j = k) := by
  rw [tb_shl _ hk, tb_nI]
  rcases Nat.lt_trichotomy j k with q | q | q
  · simp [q, Nat.ne_of_lt q]
  · subst q
    simp [hj]
  · have e : ¬ j < k := by omega
    have e2 : j - k ≠ 0 := by omega
    have e3 : (1 : Nat).testBit (j - k) = false := by
      rw [show (1 : Nat) = 2 ^ 0 from rfl, Nat.testBit_two_pow]
      simp; omega
    rw [e3]
    simp; omega
theorem tb_hasI (x : Int32) {k : Nat} (hk : k < 32) : (x >>> (nI k &&& 31)) &&& nI 1 = nI (if tb x k then 1 else 0) := by
  apply tb_ext
  intro j hj
  rw [tb_and, tb_shr _ hk, tb_nI, tb_nI]
  by_cases h0 : j = 0
  · subst h0
    cases h : tb x k <;> simp [hk, h]
  · have e3 : (1 : Nat).testBit j = false := by
      rw [show (1 : Nat) = 2 ^ 0 from rfl, Nat.testBit_two_pow]
      simp; omega
    cases h : tb x k <;> simp [e3]
theorem tb_has (x : Int32) {k : Nat} (hk : k < 32) : (x >>> (nI k &&& 31)) &&& nI 1 = 0 ↔ ¬ tb x k = true := by
  rw [tb_hasI x hk]
  cases h : tb x k <;> simp [h] <;> decide
def bsN : Nat → (Nat → Bool) → Nat
  | 0, _ => 0
  | n + 1, p => bsN n p ||| (bif p n then 2 ^ n else 0)
def bsI (n : Nat) (p : Nat → Bool) : Int32 := nI (bsN n p)
theorem bs_t (n : Nat) (p : Nat → Bool) (j : Nat) : (bsN n p).testBit j = (decide (j < n) && p j) := by
  induction n with
  | zero => simp [bsN]
  | succ n ih =>
    rw [bsN, Nat.testBit_or, ih]
    by_cases h : j = n
    · subst h
      cases hp : p j <;> simp [Nat.testBit_two_pow]
    · have e : decide (n = j) = false := by simp; omega
      have e2 : decide (j < n + 1) = decide (j < n) := by
        apply decide_eq_decide.mpr
        omega
      rw [e2]
      cases hp : p n <;> simp [Nat.testBit_two_pow, e] <;> intro hh <;> omega
theorem bs_lt (n : Nat) (p : Nat → Bool) : bsN n p < 2 ^ n := by
  apply Nat.lt_pow_two_of_testBit
  intro i hi
  rw [bs_t]
  simp; omega
theorem tb_bs {n : Nat} (hn : n ≤ 32) (p : Nat → Bool) (j : Nat) : tb (bsI n p) j = (decide (j < n) && p j) := by
  unfold bsI
  rw [tb_nI, bs_t]
  by_cases h : j < n
  · have e : j < 32 := by omega
    simp [h, e]
  · simp [h]
theorem bs_ext {n : Nat} {p q : Nat → Bool} (h : ∀ j, j < n → p j = q j) : bsI n p = bsI n q := by
  unfold bsI
  congr 1
  apply Nat.eq_of_testBit_eq
  intro i
  rw [bs_t, bs_t]
  by_cases hi : i < n
  · rw [h i hi]
  · simp [hi]
theorem bs_of {n : Nat} (hn : n ≤ 32) {x : Int32} {p : Nat → Bool} (h : ∀ j, j < n → tb x j = p j) (h0 : ∀ j, n ≤ j → tb x j = false) : x = bsI n p := by
  apply tb_ext
  intro j hj
  rw [tb_bs hn]
  by_cases q : j < n
  · rw [h j q]; simp [q]
  · rw [h0 j (by omega)]; simp [q]
theorem bs_0 (p : Nat → Bool) : bsI 0 p = nI 0 := rfl
theorem bs_succT {n : Nat} (hn : n < 32) {p : Nat → Bool} (h : p n = true) : bsI n p ||| (nI 1 <<< (nI n &&& 31)) = bsI (n + 1) p := by
  apply tb_ext
  intro j hj
  rw [tb_or, tb_bs (by omega), tb_bs (by omega), tb_shl1 hn hj]
  by_cases q : j = n
  · subst q; simp [h]
  · have e2 : decide (j < n + 1) = decide (j < n) := by
      apply decide_eq_decide.mpr
      omega
    simp [q, e2]
theorem bs_succF {n : Nat} {p : Nat → Bool} (h : p n = false) : bsI (n + 1) p = bsI n p := by
  unfold bsI
  rw [bsN, h]
  simp
theorem bs_31 {n : Nat} (hn : n ≤ 31) (p : Nat → Bool) : bsN n p < 2 ^ 31 := Nat.lt_of_lt_of_le (bs_lt n p) (Nat.pow_le_pow_right (by decide) hn)
theorem bs_eq0 {n : Nat} (hn : n ≤ 32) (p : Nat → Bool) : bsI n p = 0 ↔ ∀ j, j < n → p j = false := by
  constructor
  · intro e j hj
    have q := tb_bs hn p j
    rw [e, tb_0] at q
    simp [hj] at q
    exact q
  · intro e
    apply tb_ext
    intro j hj
    rw [tb_bs hn, tb_0]
    by_cases q : j < n
    · rw [e j q]; simp
    · simp [q]
theorem bs_or {n : Nat} (hn : n ≤ 32) (p q : Nat → Bool) : bsI n p ||| bsI n q = bsI n (fun j => p j || q j) := by
  apply tb_ext
  intro j hj
  rw [tb_or, tb_bs hn, tb_bs hn, tb_bs hn]
  cases decide (j < n) <;> simp
theorem bs_and {n : Nat} (hn : n ≤ 32) (p q : Nat → Bool) : bsI n p &&& bsI n q = bsI n (fun j => p j && q j) := by
  apply tb_ext
  intro j hj
  rw [tb_and, tb_bs hn, tb_bs hn, tb_bs hn]
  cases decide (j < n) <;> simp
theorem bs_diff {n : Nat} (hn : n ≤ 32) (p q : Nat → Bool) : bsI n p &&& (bsI n q ^^^ (-1)) = bsI n (fun j => p j && !q j) := by
  apply tb_ext
  intro j hj
  rw [tb_and, tb_xor, tb_bs hn, tb_bs hn, tb_bs hn, tb_m1 hj]
  cases decide (j < n) <;> simp
theorem bs_one {n k : Nat} (hn : n ≤ 32) (hk : k < n) : nI 1 <<< (nI k &&& 31) = bsI n (fun j => decide (j = k)) := by
  apply tb_ext
  intro j hj
  rw [tb_shl1 (by omega) hj, tb_bs hn]
  by_cases q : j = k
  · subst q; simp [hk]
  · simp [q]
theorem bs_zero (n : Nat) : bsI n (fun _ => false) = nI 0 := by
  induction n with
  | zero => rfl
  | succ n ih => rw [bs_succF rfl, ih]
theorem bs_inj {n : Nat} (hn : n ≤ 32) {p q : Nat → Bool} (h : bsI n p = bsI n q) : ∀ j, j < n → p j = q j := by
  intro j hj
  have e := congrArg (fun x => tb x j) h
  simp only [tb_bs hn, hj, decide_true, Bool.true_and] at e
  exact e
/-- cells that lie beside one another -/
def nb (p : Nat → Bool) (j : Nat) : Bool := (decide (0 < j % 6) && p (j - 1)) || (decide (j % 6 < 5) && p (j + 1)) || (decide (6 ≤ j) && p (j - 6)) || (decide (j < 24) && p (j + 6))
