/-! INTS AS NUMBERS: what the laws' code reckons with -/
def iI (x : Int) : Int32 := Int32.ofInt x
def lI (x : Int) : Int64 := Int64.ofInt x
theorem iI_toInt {x : Int} (h1 : -2147483648 ≤ x) (h2 : x < 2147483648) : (iI x).toInt = x := Int32.toInt_ofInt_of_le (by omega) (by omega)
theorem lI_toInt {x : Int} (h1 : -9223372036854775808 ≤ x) (h2 : x < 9223372036854775808) : (lI x).toInt = x := Int64.toInt_ofInt_of_le (by omega) (by omega)
theorem iI_nat (n : Nat) : iI (n : Int) = nI n := Int32.ofInt_eq_ofNat
theorem lI_nat (n : Nat) : lI (n : Int) = lN n := Int64.ofInt_eq_ofNat
theorem iI_eq {x y : Int} (h1 : -2147483648 ≤ x ∧ x < 2147483648) (h2 : -2147483648 ≤ y ∧ y < 2147483648) : iI x = iI y ↔ x = y := by
  constructor
  · intro e
    have := congrArg Int32.toInt e
    rw [iI_toInt h1.1 h1.2, iI_toInt h2.1 h2.2] at this
    exact this
  · intro e; rw [e]
theorem iI_of (x : Int32) : x = iI x.toInt := (Int32.ofInt_toInt x).symm
theorem iI_lt {x y : Int} (h1 : -2147483648 ≤ x ∧ x < 2147483648) (h2 : -2147483648 ≤ y ∧ y < 2147483648) : iI x < iI y ↔ x < y := by
  rw [Int32.lt_iff_toInt_lt, iI_toInt h1.1 h1.2, iI_toInt h2.1 h2.2]
theorem lI_lt {x y : Int} (h1 : -9223372036854775808 ≤ x ∧ x < 9223372036854775808) (h2 : -9223372036854775808 ≤ y ∧ y < 9223372036854775808) : lI x < lI y ↔ x < y := by
  rw [Int64.lt_iff_toInt_lt, lI_toInt h1.1 h1.2, lI_toInt h2.1 h2.2]
section AZ
variable {d k pc n : Nat} {L st : List Value} {σ : mvSt} {r : Option Value × mvSt} {l a b w : Nat} {im : Int}
theorem a_iaddZ {x y : Int} (hC : mvC k pc = (.iadd, l, im, a, b, w)) (hn : pc + 1 = n) (A : avA d k n L (.int (iI (x + y)) :: st) σ r) : avA d k pc L (.int (iI y) :: .int (iI x) :: st) σ r := a_iadd hC hn (by rw [iI, iI, ← Int32.ofInt_add]; exact A)
theorem a_isubZ {x y : Int} (hC : mvC k pc = (.isub, l, im, a, b, w)) (hn : pc + 1 = n) (A : avA d k n L (.int (iI (x - y)) :: st) σ r) : avA d k pc L (.int (iI y) :: .int (iI x) :: st) σ r := a_isub hC hn (by rw [iI, iI, ← Int32.ofInt_sub]; exact A)
theorem a_imulZ {x y : Int} (hC : mvC k pc = (.imul, l, im, a, b, w)) (hn : pc + 1 = n) (A : avA d k n L (.int (iI (x * y)) :: st) σ r) : avA d k pc L (.int (iI y) :: .int (iI x) :: st) σ r := a_imul hC hn (by rw [iI, iI, ← Int32.ofInt_mul]; exact A)
theorem a_inegZ {x : Int} (hC : mvC k pc = (.ineg, l, im, a, b, w)) (hn : pc + 1 = n) (A : avA d k n L (.int (iI (-x)) :: st) σ r) : avA d k pc L (.int (iI x) :: st) σ r := a_ineg hC hn (by rw [iI, ← Int32.ofInt_neg]; exact A)
theorem a_idivZ {x y : Int} (hC : mvC k pc = (.idiv, l, im, a, b, w)) (hn : pc + 1 = n) (hx : -2147483648 ≤ x ∧ x ≤ 2147483647) (hy : -2147483648 ≤ y ∧ y ≤ 2147483647) (h0 : ¬ y = 0) (A : avA d k n L (.int (iI (x.tdiv y)) :: st) σ r) : avA d k pc L (.int (iI y) :: .int (iI x) :: st) σ r := by
  refine a_idiv hC hn (fun q => h0 ?_) ?_
  · have := congrArg Int32.toInt q
    rw [iI_toInt (by omega) (by omega)] at this
    exact this
  · have e : iI x / iI y = iI (x.tdiv y) := (Int32.ofInt_tdiv hx.1 hx.2 hy.1 hy.2).symm
    rw [e]; exact A
theorem a_i2lZ {x : Int} (hC : mvC k pc = (.i2l, l, im, a, b, w)) (hn : pc + 1 = n) (hx : -2147483648 ≤ x ∧ x ≤ 2147483647) (A : avA d k n L (.long (lI x) :: st) σ r) : avA d k pc L (.int (iI x) :: st) σ r := a_i2l hC hn (by
  have e : (iI x).toInt64 = lI x := Int32.toInt64_ofInt hx.1 hx.2
  rw [e]; exact A)
theorem a_l2iZ {x : Int} (hC : mvC k pc = (.l2i, l, im, a, b, w)) (hn : pc + 1 = n) (A : avA d k n L (.int (iI x) :: st) σ r) : avA d k pc L (.long (lI x) :: st) σ r := a_l2i hC hn (by
  have e : (lI x).toInt32 = iI x := Int64.toInt32_ofInt
  rw [e]; exact A)
theorem a_laddZ {x y : Int} (hC : mvC k pc = (.ladd, l, im, a, b, w)) (hn : pc + 1 = n) (A : avA d k n L (.long (lI (x + y)) :: st) σ r) : avA d k pc L (.long (lI y) :: .long (lI x) :: st) σ r := a_ladd hC hn (by rw [lI, lI, ← Int64.ofInt_add]; exact A)
theorem a_lsubZ {x y : Int} (hC : mvC k pc = (.lsub, l, im, a, b, w)) (hn : pc + 1 = n) (A : avA d k n L (.long (lI (x - y)) :: st) σ r) : avA d k pc L (.long (lI y) :: .long (lI x) :: st) σ r := a_lsub hC hn (by rw [lI, lI, ← Int64.ofInt_sub]; exact A)
theorem a_lmulZ {x y : Int} (hC : mvC k pc = (.lmul, l, im, a, b, w)) (hn : pc + 1 = n) (A : avA d k n L (.long (lI (x * y)) :: st) σ r) : avA d k pc L (.long (lI y) :: .long (lI x) :: st) σ r := a_lmul hC hn (by rw [lI, lI, ← Int64.ofInt_mul]; exact A)
theorem a_lnegZ {x : Int} (hC : mvC k pc = (.lneg, l, im, a, b, w)) (hn : pc + 1 = n) (A : avA d k n L (.long (lI (-x)) :: st) σ r) : avA d k pc L (.long (lI x) :: st) σ r := a_lneg hC hn (by rw [lI, ← Int64.ofInt_neg]; exact A)
theorem a_ldivZ {x y : Int} (hC : mvC k pc = (.ldiv, l, im, a, b, w)) (hn : pc + 1 = n) (hx : -9223372036854775808 ≤ x ∧ x ≤ 9223372036854775807) (hy : -9223372036854775808 ≤ y ∧ y ≤ 9223372036854775807) (h0 : ¬ y = 0) (A : avA d k n L (.long (lI (x.tdiv y)) :: st) σ r) : avA d k pc L (.long (lI y) :: .long (lI x) :: st) σ r := by
  refine a_ldiv hC hn (fun q => h0 ?_) ?_
  · have := congrArg Int64.toInt q
    rw [lI_toInt (by omega) (by omega)] at this
    exact this
  · have e : lI x / lI y = lI (x.tdiv y) := (Int64.ofInt_tdiv hx.1 hx.2 hy.1 hy.2).symm
    rw [e]; exact A
theorem a_maxN {i x y : Nat} (hC : mvC k pc = (.invokestatic i, l, im, a, 4, w)) (hn : pc + 3 = n) (hs : (st.map fun v => v.category).sum ≤ 8) (hx : x < 2 ^ 31) (hy : y < 2 ^ 31) (A : avA d k n L (.int (nI (max x y)) :: st) σ r) : avA d k pc L (.int (nI y) :: .int (nI x) :: st) σ r := a_max hC hn hs (by
  have e : (if nI x < nI y then nI y else nI x) = nI (max x y) := by
    by_cases q : x < y
    · rw [if_pos ((nI_ltI hx hy).mpr q), Nat.max_eq_right (by omega)]
    · rw [if_neg (fun z => q ((nI_ltI hx hy).mp z)), Nat.max_eq_left (by omega)]
  rw [e]; exact A)
theorem a_minN {i x y : Nat} (hC : mvC k pc = (.invokestatic i, l, im, a, 5, w)) (hn : pc + 3 = n) (hs : (st.map fun v => v.category).sum ≤ 8) (hx : x < 2 ^ 31) (hy : y < 2 ^ 31) (A : avA d k n L (.int (nI (min x y)) :: st) σ r) : avA d k pc L (.int (nI y) :: .int (nI x) :: st) σ r := a_min hC hn hs (by
  have e : (if nI y < nI x then nI y else nI x) = nI (min x y) := by
    by_cases q : y < x
    · rw [if_pos ((nI_ltI hy hx).mpr q), Nat.min_eq_right (by omega)]
    · rw [if_neg (fun z => q ((nI_ltI hy hx).mp z)), Nat.min_eq_left (by omega)]
  rw [e]; exact A)
theorem a_maxZ {i : Nat} {x y : Int} (hC : mvC k pc = (.invokestatic i, l, im, a, 4, w)) (hn : pc + 3 = n) (hs : (st.map fun v => v.category).sum ≤ 8) (hx : -2147483648 ≤ x ∧ x < 2147483648) (hy : -2147483648 ≤ y ∧ y < 2147483648) (A : avA d k n L (.int (iI (max x y)) :: st) σ r) : avA d k pc L (.int (iI y) :: .int (iI x) :: st) σ r := a_max hC hn hs (by
  have e : (if iI x < iI y then iI y else iI x) = iI (max x y) := by
    by_cases q : x < y
    · rw [if_pos ((iI_lt hx hy).mpr q), Int.max_eq_right (by omega)]
    · rw [if_neg (fun z => q ((iI_lt hx hy).mp z)), Int.max_eq_left (by omega)]
  rw [e]; exact A)
theorem a_minZ {i : Nat} {x y : Int} (hC : mvC k pc = (.invokestatic i, l, im, a, 5, w)) (hn : pc + 3 = n) (hs : (st.map fun v => v.category).sum ≤ 8) (hx : -2147483648 ≤ x ∧ x < 2147483648) (hy : -2147483648 ≤ y ∧ y < 2147483648) (A : avA d k n L (.int (iI (min x y)) :: st) σ r) : avA d k pc L (.int (iI y) :: .int (iI x) :: st) σ r := a_min hC hn hs (by
  have e : (if iI y < iI x then iI y else iI x) = iI (min x y) := by
    by_cases q : y < x
    · rw [if_pos ((iI_lt hy hx).mpr q), Int.min_eq_right (by omega)]
    · rw [if_neg (fun z => q ((iI_lt hy hx).mp z)), Int.min_eq_left (by omega)]
  rw [e]; exact A)
theorem a_maxlZ {i : Nat} {x y : Int} (hC : mvC k pc = (.invokestatic i, l, im, a, 6, w)) (hn : pc + 3 = n) (hs : (st.map fun v => v.category).sum ≤ 8) (hx : -9223372036854775808 ≤ x ∧ x < 9223372036854775808) (hy : -9223372036854775808 ≤ y ∧ y < 9223372036854775808) (A : avA d k n L (.long (lI (max x y)) :: st) σ r) : avA d k pc L (.long (lI y) :: .long (lI x) :: st) σ r := a_maxl hC hn hs (by
  have e : (if lI y < lI x then lI x else lI y) = lI (max x y) := by
    by_cases q : y < x
    · rw [if_pos ((lI_lt hy hx).mpr q), Int.max_eq_left (by omega)]
    · rw [if_neg (fun z => q ((lI_lt hy hx).mp z)), Int.max_eq_right (by omega)]
  rw [e]; exact A)
theorem a_minlZ {i : Nat} {x y : Int} (hC : mvC k pc = (.invokestatic i, l, im, a, 7, w)) (hn : pc + 3 = n) (hs : (st.map fun v => v.category).sum ≤ 8) (hx : -9223372036854775808 ≤ x ∧ x < 9223372036854775808) (hy : -9223372036854775808 ≤ y ∧ y < 9223372036854775808) (A : avA d k n L (.long (lI (min x y)) :: st) σ r) : avA d k pc L (.long (lI y) :: .long (lI x) :: st) σ r := a_minl hC hn hs (by
  have e : (if lI y < lI x then lI y else lI x) = lI (min x y) := by
    by_cases q : y < x
    · rw [if_pos ((lI_lt hy hx).mpr q), Int.min_eq_right (by omega)]
    · rw [if_neg (fun z => q ((lI_lt hy hx).mp z)), Int.min_eq_left (by omega)]
  rw [e]; exact A)
theorem a_ifI_eq {x : Int32} {X : Int} {off : Int} {t : Nat} (hC : mvC k pc = (.ifCond .eq off, l, im, a, b, w)) (ht : (pc : Int) + off = (t : Int)) (hn : pc + 3 = n) (hx : x.toInt = X) (T : X = 0 → avA d k t L st σ r) (F : ¬ X = 0 → avA d k n L st σ r) : avA d k pc L (.int x :: st) σ r := by
  subst hx
  exact a_if_eq hC ht hn (fun c => T (by rw [c]; rfl)) (fun c => F (fun e => c (Int32.toInt_inj.mp e)))
theorem a_ifI_ne {x : Int32} {X : Int} {off : Int} {t : Nat} (hC : mvC k pc = (.ifCond .ne off, l, im, a, b, w)) (ht : (pc : Int) + off = (t : Int)) (hn : pc + 3 = n) (hx : x.toInt = X) (T : ¬ X = 0 → avA d k t L st σ r) (F : X = 0 → avA d k n L st σ r) : avA d k pc L (.int x :: st) σ r := by
  subst hx
  exact a_if_ne hC ht hn (fun c => T (fun e => c (Int32.toInt_inj.mp e))) (fun c => F (by rw [c]; rfl))
theorem a_lc_ge {x y : Int64} {X Y : Int} {off : Int} {t : Nat} (hC : mvC k pc = (.ifCond .ge off, l, im, a, b, w)) (ht : (pc : Int) + off = (t : Int)) (hn : pc + 3 = n) (hx : x.toInt = X) (hy : y.toInt = Y) (T : Y ≤ X → avA d k t L st σ r) (F : ¬ Y ≤ X → avA d k n L st σ r) : avA d k pc L (.int (lg_cmp x y) :: st) σ r := by
  subst hx hy
  refine a_if_ge hC ht hn (fun c => T ?_) (fun c => F (fun e => c ?_))
  · have := (lg_cmp_ge x y).mp c
    first | exact Int64.le_iff_toInt_le.mp this | exact Int64.lt_iff_toInt_lt.mp this
  · refine (lg_cmp_ge x y).mpr ?_
    first | exact Int64.le_iff_toInt_le.mpr e | exact Int64.lt_iff_toInt_lt.mpr e
theorem a_lc_le {x y : Int64} {X Y : Int} {off : Int} {t : Nat} (hC : mvC k pc = (.ifCond .le off, l, im, a, b, w)) (ht : (pc : Int) + off = (t : Int)) (hn : pc + 3 = n) (hx : x.toInt = X) (hy : y.toInt = Y) (T : X ≤ Y → avA d k t L st σ r) (F : ¬ X ≤ Y → avA d k n L st σ r) : avA d k pc L (.int (lg_cmp x y) :: st) σ r := by
  subst hx hy
  refine a_if_le hC ht hn (fun c => T ?_) (fun c => F (fun e => c ?_))
  · have := (lg_cmp_le x y).mp c
    first | exact Int64.le_iff_toInt_le.mp this | exact Int64.lt_iff_toInt_lt.mp this
  · refine (lg_cmp_le x y).mpr ?_
    first | exact Int64.le_iff_toInt_le.mpr e | exact Int64.lt_iff_toInt_lt.mpr e
theorem a_lc_gt {x y : Int64} {X Y : Int} {off : Int} {t : Nat} (hC : mvC k pc = (.ifCond .gt off, l, im, a, b, w)) (ht : (pc : Int) + off = (t : Int)) (hn : pc + 3 = n) (hx : x.toInt = X) (hy : y.toInt = Y) (T : Y < X → avA d k t L st σ r) (F : ¬ Y < X → avA d k n L st σ r) : avA d k pc L (.int (lg_cmp x y) :: st) σ r := by
  subst hx hy
  refine a_if_gt hC ht hn (fun c => T ?_) (fun c => F (fun e => c ?_))
  · have := (lg_cmp_gt x y).mp c
    first | exact Int64.le_iff_toInt_le.mp this | exact Int64.lt_iff_toInt_lt.mp this
  · refine (lg_cmp_gt x y).mpr ?_
    first | exact Int64.le_iff_toInt_le.mpr e | exact Int64.lt_iff_toInt_lt.mpr e
theorem a_lc_lt {x y : Int64} {X Y : Int} {off : Int} {t : Nat} (hC : mvC k pc = (.ifCond .lt off, l, im, a, b, w)) (ht : (pc : Int) + off = (t : Int)) (hn : pc + 3 = n) (hx : x.toInt = X) (hy : y.toInt = Y) (T : X < Y → avA d k t L st σ r) (F : ¬ X < Y → avA d k n L st σ r) : avA d k pc L (.int (lg_cmp x y) :: st) σ r := by
  subst hx hy
  refine a_if_lt hC ht hn (fun c => T ?_) (fun c => F (fun e => c ?_))
  · have := (lg_cmp_lt x y).mp c
    first | exact Int64.le_iff_toInt_le.mp this | exact Int64.lt_iff_toInt_lt.mp this
  · refine (lg_cmp_lt x y).mpr ?_
    first | exact Int64.le_iff_toInt_le.mpr e | exact Int64.lt_iff_toInt_lt.mpr e
theorem a_lc_eq {x y : Int64} {X Y : Int} {off : Int} {t : Nat} (hC : mvC k pc = (.ifCond .eq off, l, im, a, b, w)) (ht : (pc : Int) + off = (t : Int)) (hn : pc + 3 = n) (hx : x.toInt = X) (hy : y.toInt = Y) (T : X = Y → avA d k t L st σ r) (F : ¬ X = Y → avA d k n L st σ r) : avA d k pc L (.int (lg_cmp x y) :: st) σ r := by
  subst hx hy
  exact a_if_eq hC ht hn (fun c => T (by rw [(lg_cmp_eq x y).mp c])) (fun c => F (fun e => c ((lg_cmp_eq x y).mpr (Int64.toInt_inj.mp e))))
theorem a_lc_ne {x y : Int64} {X Y : Int} {off : Int} {t : Nat} (hC : mvC k pc = (.ifCond .ne off, l, im, a, b, w)) (ht : (pc : Int) + off = (t : Int)) (hn : pc + 3 = n) (hx : x.toInt = X) (hy : y.toInt = Y) (T : ¬ X = Y → avA d k t L st σ r) (F : X = Y → avA d k n L st σ r) : avA d k pc L (.int (lg_cmp x y) :: st) σ r := by
  subst hx hy
  exact a_if_ne hC ht hn (fun c => T (fun e => c ((lg_cmp_eq x y).mpr (Int64.toInt_inj.mp e)))) (fun c => F (by rw [(lg_cmp_eq x y).mp c]))
end AZ
/-! joining two, cutting -/
def clp (v : Int) : Int := max (-1000000) (min 1000000 v)
def clN (v : Int) (m : Nat) : Nat := (max 0 (min v m)).toNat
def b01 (p : Prop) [Decidable p] : Int := if p then 1 else 0
def jnZ (sg : Nat) (y x : Int) : Int := match sg with
  | 36 => clp (y + x)
  | 37 => clp (y - x)
  | 38 => clp (y * x)
  | 39 => if x = 0 then 0 else clp (y.tdiv x)
  | 21 => (y + x).tdiv 2
  | 28 => b01 (¬ (y = 0 ∧ x = 0))
  | 29 => b01 (y = 1 ∧ x = 1)
  | 32 => b01 (y < x)
  | 43 => b01 (y ≤ x)
  | 33 => b01 (x < y)
  | 44 => b01 (x ≤ y)
  | 34 => b01 (y = x)
  | _ => b01 (¬ y = x)
theorem mulB {x y : Int} (hx : -1000000 ≤ x ∧ x ≤ 1000000) (hy : -1000000 ≤ y ∧ y ≤ 1000000) : -1000000000000 ≤ y * x ∧ y * x ≤ 1000000000000 := by
  have h1 := Int.mul_nonneg (a := 1000000 - y) (b := 1000000 - x) (by omega) (by omega)
  have h2 := Int.mul_nonneg (a := 1000000 + y) (b := 1000000 + x) (by omega) (by omega)
  have h3 := Int.mul_nonneg (a := 1000000 - y) (b := 1000000 + x) (by omega) (by omega)
  have h4 := Int.mul_nonneg (a := 1000000 + y) (b := 1000000 - x) (by omega) (by omega)
  rw [Int.sub_mul, Int.mul_sub, Int.mul_sub] at h1
  rw [Int.add_mul, Int.mul_add, Int.mul_add] at h2
  rw [Int.sub_mul, Int.mul_add, Int.mul_add] at h3
  rw [Int.add_mul, Int.mul_sub, Int.mul_sub] at h4
  omega
theorem tdivB {x y : Int} (hy : -1000000 ≤ y ∧ y ≤ 1000000) : -1000000 ≤ y.tdiv x ∧ y.tdiv x ≤ 1000000 := by
  have h := Int.natAbs_tdiv_le_natAbs y x
  omega
theorem tdiv2B {x y : Int} (hx : -1000000 ≤ x ∧ x ≤ 1000000) (hy : -1000000 ≤ y ∧ y ≤ 1000000) : -1000000 ≤ (y + x).tdiv 2 ∧ (y + x).tdiv 2 ≤ 1000000 := by
  have h : ((y + x).tdiv 2).natAbs = (y + x).natAbs / 2 := Int.natAbs_tdiv (y + x) 2
  omega
theorem b01_T {p : Prop} [Decidable p] (h : p) : b01 p = 1 := if_pos h
theorem b01_F {p : Prop} [Decidable p] (h : ¬ p) : b01 p = 0 := if_neg h
theorem b01_B (p : Prop) [Decidable p] : b01 p = 0 ∨ b01 p = 1 := by
  unfold b01
  split
  · exact Or.inr rfl
  · exact Or.inl rfl
theorem clp_B (v : Int) : -1000000 ≤ clp v ∧ clp v ≤ 1000000 := by unfold clp; omega
theorem clp_id {v : Int} (h : -1000000 ≤ v ∧ v ≤ 1000000) : clp v = v := by unfold clp; omega
theorem or01 {y x : Int} (hy : y = 0 ∨ y = 1) (hx : x = 0 ∨ x = 1) : iI y ||| iI x = iI (b01 (¬ (y = 0 ∧ x = 0))) := by
  rcases hy with rfl | rfl <;> rcases hx with rfl | rfl <;> decide
theorem and01 {y x : Int} (hy : y = 0 ∨ y = 1) (hx : x = 0 ∨ x = 1) : iI y &&& iI x = iI (b01 (y = 1 ∧ x = 1)) := by
  rcases hy with rfl | rfl <;> rcases hx with rfl | rfl <;> decide
theorem b01_clp (p : Prop) [Decidable p] : clp (b01 p) = b01 p := by
  rcases b01_B p with h | h <;> rw [h] <;> rfl
abbrev jnOk (sg : Nat) (y x : Int) : Prop := (sg = 36 ∨ sg = 37 ∨ sg = 38 ∨ sg = 39 ∨ sg = 21 ∨ sg = 32 ∨ sg = 33 ∨ sg = 34 ∨ sg = 35 ∨ sg = 43 ∨ sg = 44) ∨ ((sg = 28 ∨ sg = 29) ∧ (y = 0 ∨ y = 1) ∧ (x = 0 ∨ x = 1))
theorem e_join {σ : mvSt} (sg : Nat) (y x : Int) (hs : jnOk sg y x) (hy : -1000000 ≤ y ∧ y ≤ 1000000) (hx : -1000000 ≤ x ∧ x ≤ 1000000) : avE 0 108 [.int (nI sg), .int (iI y), .int (iI x)] σ (some (.int (iI (jnZ sg y x))), σ) := by
  have hm := mulB hx hy
  have hd := tdivB (x := x) hy
  have h2 := tdiv2B hx hy
  rcases hs with (rfl | rfl | rfl | rfl | rfl | rfl | rfl | rfl | rfl | rfl | rfl) | ⟨rfl | rfl, b1, b2⟩
  · show avA _ 108 0 [.int (nI 36), .int (iI (y)), .int (iI (x)), mvU, mvU] [] _ _
    refine a_lconst (v := lI 0) rfl rfl rfl ?_
    refine a_lstore_3 rfl rfl rfl ?_
    refine a_iload_0 rfl rfl ?_
    refine a_tabIn rfl (by decide) rfl rfl ?_
    refine a_iload_1 rfl rfl ?_
    refine a_iload_2 rfl rfl ?_
    refine a_iaddZ rfl rfl ?_
    refine a_i2lZ rfl rfl (by omega) ?_
    refine a_lstore_3 rfl rfl rfl ?_
    refine a_goto rfl rfl ?_
    refine a_ldc2 (v := lI (-1000000)) rfl rfl rfl ?_
    refine a_ldc2 (v := lI (1000000)) rfl rfl rfl ?_
    refine a_lload_3 rfl rfl ?_
    refine a_minlZ rfl rfl (Nat.le_of_ble_eq_true rfl) (by omega) (by omega) ?_
    refine a_maxlZ rfl rfl (Nat.le_of_ble_eq_true rfl) (by omega) (by omega) ?_
    refine a_l2iZ rfl rfl ?_
    refine av_to (a_iret rfl rfl) ?_
    first | rfl | (show _ = (some (Value.int (iI (if x = 0 then 0 else clp (y.tdiv x)))), σ); first | (rw [if_pos ‹x = 0›]; rfl) | (rw [if_neg ‹¬ x = 0›]; rfl))
  · show avA _ 108 0 [.int (nI 37), .int (iI (y)), .int (iI (x)), mvU, mvU] [] _ _
    refine a_lconst (v := lI 0) rfl rfl rfl ?_
    refine a_lstore_3 rfl rfl rfl ?_
    refine a_iload_0 rfl rfl ?_
    refine a_tabIn rfl (by decide) rfl rfl ?_
    refine a_iload_1 rfl rfl ?_
    refine a_iload_2 rfl rfl ?_
    refine a_isubZ rfl rfl ?_
    refine a_i2lZ rfl rfl (by omega) ?_
    refine a_lstore_3 rfl rfl rfl ?_
    refine a_goto rfl rfl ?_
    refine a_ldc2 (v := lI (-1000000)) rfl rfl rfl ?_
    refine a_ldc2 (v := lI (1000000)) rfl rfl rfl ?_
    refine a_lload_3 rfl rfl ?_
    refine a_minlZ rfl rfl (Nat.le_of_ble_eq_true rfl) (by omega) (by omega) ?_
    refine a_maxlZ rfl rfl (Nat.le_of_ble_eq_true rfl) (by omega) (by omega) ?_
    refine a_l2iZ rfl rfl ?_
    refine av_to (a_iret rfl rfl) ?_
    first | rfl | (show _ = (some (Value.int (iI (if x = 0 then 0 else clp (y.tdiv x)))), σ); first | (rw [if_pos ‹x = 0›]; rfl) | (rw [if_neg ‹¬ x = 0›]; rfl))
  · show avA _ 108 0 [.int (nI 38), .int (iI (y)), .int (iI (x)), mvU, mvU] [] _ _
    refine a_lconst (v := lI 0) rfl rfl rfl ?_
    refine a_lstore_3 rfl rfl rfl ?_
    refine a_iload_0 rfl rfl ?_
    refine a_tabIn rfl (by decide) rfl rfl ?_
    refine a_iload_1 rfl rfl ?_
    refine a_i2lZ rfl rfl (by omega) ?_
    refine a_iload_2 rfl rfl ?_
    refine a_i2lZ rfl rfl (by omega) ?_
    refine a_lmulZ rfl rfl ?_
    refine a_lstore_3 rfl rfl rfl ?_
    refine a_goto rfl rfl ?_
    refine a_ldc2 (v := lI (-1000000)) rfl rfl rfl ?_
    refine a_ldc2 (v := lI (1000000)) rfl rfl rfl ?_
    refine a_lload_3 rfl rfl ?_
    refine a_minlZ rfl rfl (Nat.le_of_ble_eq_true rfl) (by omega) (by omega) ?_
    refine a_maxlZ rfl rfl (Nat.le_of_ble_eq_true rfl) (by omega) (by omega) ?_
    refine a_l2iZ rfl rfl ?_
    refine av_to (a_iret rfl rfl) ?_
    first | rfl | (show _ = (some (Value.int (iI (if x = 0 then 0 else clp (y.tdiv x)))), σ); first | (rw [if_pos ‹x = 0›]; rfl) | (rw [if_neg ‹¬ x = 0›]; rfl))
  · show avA _ 108 0 [.int (nI 39), .int (iI (y)), .int (iI (x)), mvU, mvU] [] _ _
    refine a_lconst (v := lI 0) rfl rfl rfl ?_
    refine a_lstore_3 rfl rfl rfl ?_
    refine a_iload_0 rfl rfl ?_
    refine a_tabIn rfl (by decide) rfl rfl ?_
    refine a_iload_2 rfl rfl ?_
    refine a_ifI_ne rfl rfl rfl (iI_toInt (by omega) (by omega)) (fun c_138 => ?_) (fun c_138 => ?_)
    · refine a_iload_1 rfl rfl ?_
      refine a_iload_2 rfl rfl ?_
      refine a_idivZ rfl rfl (by omega) (by omega) (by omega) ?_
      refine a_i2lZ rfl rfl (by omega) ?_
      refine a_lstore_3 rfl rfl rfl ?_
      refine a_goto rfl rfl ?_
      refine a_ldc2 (v := lI (-1000000)) rfl rfl rfl ?_
      refine a_ldc2 (v := lI (1000000)) rfl rfl rfl ?_
      refine a_lload_3 rfl rfl ?_
      refine a_minlZ rfl rfl (Nat.le_of_ble_eq_true rfl) (by omega) (by omega) ?_
      refine a_maxlZ rfl rfl (Nat.le_of_ble_eq_true rfl) (by omega) (by omega) ?_
      refine a_l2iZ rfl rfl ?_
      refine av_to (a_iret rfl rfl) ?_
      first | rfl | (show _ = (some (Value.int (iI (if x = 0 then 0 else clp (y.tdiv x)))), σ); first | (rw [if_pos ‹x = 0›]; rfl) | (rw [if_neg ‹¬ x = 0›]; rfl))
    · refine a_lconst (v := lI 0) rfl rfl rfl ?_
      refine a_goto rfl rfl ?_
      refine a_lstore_3 rfl rfl rfl ?_
      refine a_goto rfl rfl ?_
      refine a_ldc2 (v := lI (-1000000)) rfl rfl rfl ?_
      refine a_ldc2 (v := lI (1000000)) rfl rfl rfl ?_
      refine a_lload_3 rfl rfl ?_
      refine a_minlZ rfl rfl (Nat.le_of_ble_eq_true rfl) (by omega) (by omega) ?_
      refine a_maxlZ rfl rfl (Nat.le_of_ble_eq_true rfl) (by omega) (by omega) ?_
      refine a_l2iZ rfl rfl ?_
      refine av_to (a_iret rfl rfl) ?_
      first | rfl | (show _ = (some (Value.int (iI (if x = 0 then 0 else clp (y.tdiv x)))), σ); first | (rw [if_pos ‹x = 0›]; rfl) | (rw [if_neg ‹¬ x = 0›]; rfl))
  · show avA _ 108 0 [.int (nI 21), .int (iI (y)), .int (iI (x)), mvU, mvU] [] _ _
    refine a_lconst (v := lI 0) rfl rfl rfl ?_
    refine a_lstore_3 rfl rfl rfl ?_
    refine a_iload_0 rfl rfl ?_
    refine a_tabIn rfl (by decide) rfl rfl ?_
    refine a_iload_1 rfl rfl ?_
    refine a_iload_2 rfl rfl ?_
    refine a_iaddZ rfl rfl ?_
    refine a_iconst (v := iI (2)) rfl rfl rfl ?_
    refine a_idivZ rfl rfl (by omega) (by omega) (by omega) ?_
    refine a_i2lZ rfl rfl (by omega) ?_
    refine a_lstore_3 rfl rfl rfl ?_
    refine a_goto rfl rfl ?_
    refine a_ldc2 (v := lI (-1000000)) rfl rfl rfl ?_
    refine a_ldc2 (v := lI (1000000)) rfl rfl rfl ?_
    refine a_lload_3 rfl rfl ?_
    refine a_minlZ rfl rfl (Nat.le_of_ble_eq_true rfl) (by omega) (by omega) ?_
    refine a_maxlZ rfl rfl (Nat.le_of_ble_eq_true rfl) (by omega) (by omega) ?_
    refine a_l2iZ rfl rfl ?_
    refine av_to (a_iret rfl rfl) ?_
    exact congrArg (fun v => (some (Value.int (iI v)), σ)) (show max (-1000000) (min 1000000 ((y + x).tdiv 2)) = (y + x).tdiv 2 from clp_id h2)
  · show avA _ 108 0 [.int (nI 32), .int (iI (y)), .int (iI (x)), mvU, mvU] [] _ _
    refine a_lconst (v := lI 0) rfl rfl rfl ?_
    refine a_lstore_3 rfl rfl rfl ?_
    refine a_iload_0 rfl rfl ?_
    refine a_tabIn rfl (by decide) rfl rfl ?_
    refine a_iload_1 rfl rfl ?_
    refine a_iload_2 rfl rfl ?_
    refine a_cmpI_ge rfl rfl rfl (iI_toInt (by omega) (by omega)) (iI_toInt (by omega) (by omega)) (fun c_181 => ?_) (fun c_181 => ?_)
    · refine a_lconst (v := lI 0) rfl rfl rfl ?_
      refine a_lstore_3 rfl rfl rfl ?_
      refine a_goto rfl rfl ?_
      refine a_ldc2 (v := lI (-1000000)) rfl rfl rfl ?_
      refine a_ldc2 (v := lI (1000000)) rfl rfl rfl ?_
      refine a_lload_3 rfl rfl ?_
      refine a_minlZ rfl rfl (Nat.le_of_ble_eq_true rfl) (by omega) (by omega) ?_
      refine a_maxlZ rfl rfl (Nat.le_of_ble_eq_true rfl) (by omega) (by omega) ?_
      refine a_l2iZ rfl rfl ?_
      refine av_to (a_iret rfl rfl) ?_
      show _ = (some (Value.int (iI (b01 (y < x)))), σ)
      first | (rw [b01_T (by omega)]; rfl) | (rw [b01_F (by omega)]; rfl)
    · refine a_lconst (v := lI 1) rfl rfl rfl ?_
      refine a_goto rfl rfl ?_
      refine a_lstore_3 rfl rfl rfl ?_
      refine a_goto rfl rfl ?_
      refine a_ldc2 (v := lI (-1000000)) rfl rfl rfl ?_
      refine a_ldc2 (v := lI (1000000)) rfl rfl rfl ?_
      refine a_lload_3 rfl rfl ?_
      refine a_minlZ rfl rfl (Nat.le_of_ble_eq_true rfl) (by omega) (by omega) ?_
      refine a_maxlZ rfl rfl (Nat.le_of_ble_eq_true rfl) (by omega) (by omega) ?_
      refine a_l2iZ rfl rfl ?_
      refine av_to (a_iret rfl rfl) ?_
      show _ = (some (Value.int (iI (b01 (y < x)))), σ)
      first | (rw [b01_T (by omega)]; rfl) | (rw [b01_F (by omega)]; rfl)
  · show avA _ 108 0 [.int (nI 33), .int (iI (y)), .int (iI (x)), mvU, mvU] [] _ _
    refine a_lconst (v := lI 0) rfl rfl rfl ?_
    refine a_lstore_3 rfl rfl rfl ?_
    refine a_iload_0 rfl rfl ?_
    refine a_tabIn rfl (by decide) rfl rfl ?_
    refine a_iload_1 rfl rfl ?_
    refine a_iload_2 rfl rfl ?_
    refine a_cmpI_le rfl rfl rfl (iI_toInt (by omega) (by omega)) (iI_toInt (by omega) (by omega)) (fun c_209 => ?_) (fun c_209 => ?_)
    · refine a_lconst (v := lI 0) rfl rfl rfl ?_
      refine a_lstore_3 rfl rfl rfl ?_
      refine a_goto rfl rfl ?_
      refine a_ldc2 (v := lI (-1000000)) rfl rfl rfl ?_
      refine a_ldc2 (v := lI (1000000)) rfl rfl rfl ?_
      refine a_lload_3 rfl rfl ?_
      refine a_minlZ rfl rfl (Nat.le_of_ble_eq_true rfl) (by omega) (by omega) ?_
      refine a_maxlZ rfl rfl (Nat.le_of_ble_eq_true rfl) (by omega) (by omega) ?_
      refine a_l2iZ rfl rfl ?_
      refine av_to (a_iret rfl rfl) ?_
      show _ = (some (Value.int (iI (b01 (x < y)))), σ)
      first | (rw [b01_T (by omega)]; rfl) | (rw [b01_F (by omega)]; rfl)
    · refine a_lconst (v := lI 1) rfl rfl rfl ?_
      refine a_goto rfl rfl ?_
      refine a_lstore_3 rfl rfl rfl ?_
      refine a_goto rfl rfl ?_
      refine a_ldc2 (v := lI (-1000000)) rfl rfl rfl ?_
      refine a_ldc2 (v := lI (1000000)) rfl rfl rfl ?_
      refine a_lload_3 rfl rfl ?_
      refine a_minlZ rfl rfl (Nat.le_of_ble_eq_true rfl) (by omega) (by omega) ?_
      refine a_maxlZ rfl rfl (Nat.le_of_ble_eq_true rfl) (by omega) (by omega) ?_
      refine a_l2iZ rfl rfl ?_
      refine av_to (a_iret rfl rfl) ?_
      show _ = (some (Value.int (iI (b01 (x < y)))), σ)
      first | (rw [b01_T (by omega)]; rfl) | (rw [b01_F (by omega)]; rfl)
  · show avA _ 108 0 [.int (nI 34), .int (iI (y)), .int (iI (x)), mvU, mvU] [] _ _
    refine a_lconst (v := lI 0) rfl rfl rfl ?_
    refine a_lstore_3 rfl rfl rfl ?_
    refine a_iload_0 rfl rfl ?_
    refine a_tabIn rfl (by decide) rfl rfl ?_
    refine a_iload_1 rfl rfl ?_
    refine a_iload_2 rfl rfl ?_
    refine a_cmpI_ne rfl rfl rfl (iI_toInt (by omega) (by omega)) (iI_toInt (by omega) (by omega)) (fun c_237 => ?_) (fun c_237 => ?_)
    · refine a_lconst (v := lI 0) rfl rfl rfl ?_
      refine a_lstore_3 rfl rfl rfl ?_
      refine a_goto rfl rfl ?_
      refine a_ldc2 (v := lI (-1000000)) rfl rfl rfl ?_
      refine a_ldc2 (v := lI (1000000)) rfl rfl rfl ?_
      refine a_lload_3 rfl rfl ?_
      refine a_minlZ rfl rfl (Nat.le_of_ble_eq_true rfl) (by omega) (by omega) ?_
      refine a_maxlZ rfl rfl (Nat.le_of_ble_eq_true rfl) (by omega) (by omega) ?_
      refine a_l2iZ rfl rfl ?_
      refine av_to (a_iret rfl rfl) ?_
      show _ = (some (Value.int (iI (b01 (y = x)))), σ)
      first | (rw [b01_T (by omega)]; rfl) | (rw [b01_F (by omega)]; rfl)
    · refine a_lconst (v := lI 1) rfl rfl rfl ?_
      refine a_goto rfl rfl ?_
      refine a_lstore_3 rfl rfl rfl ?_
      refine a_goto rfl rfl ?_
      refine a_ldc2 (v := lI (-1000000)) rfl rfl rfl ?_
      refine a_ldc2 (v := lI (1000000)) rfl rfl rfl ?_
      refine a_lload_3 rfl rfl ?_
      refine a_minlZ rfl rfl (Nat.le_of_ble_eq_true rfl) (by omega) (by omega) ?_
      refine a_maxlZ rfl rfl (Nat.le_of_ble_eq_true rfl) (by omega) (by omega) ?_
      refine a_l2iZ rfl rfl ?_
      refine av_to (a_iret rfl rfl) ?_
      show _ = (some (Value.int (iI (b01 (y = x)))), σ)
      first | (rw [b01_T (by omega)]; rfl) | (rw [b01_F (by omega)]; rfl)
  · show avA _ 108 0 [.int (nI 35), .int (iI (y)), .int (iI (x)), mvU, mvU] [] _ _
    refine a_lconst (v := lI 0) rfl rfl rfl ?_
    refine a_lstore_3 rfl rfl rfl ?_
    refine a_iload_0 rfl rfl ?_
    refine a_tabIn rfl (by decide) rfl rfl ?_
    refine a_iload_1 rfl rfl ?_
    refine a_iload_2 rfl rfl ?_
    refine a_cmpI_eq rfl rfl rfl (iI_toInt (by omega) (by omega)) (iI_toInt (by omega) (by omega)) (fun c_251 => ?_) (fun c_251 => ?_)
    · refine a_lconst (v := lI 0) rfl rfl rfl ?_
      refine a_lstore_3 rfl rfl rfl ?_
      refine a_ldc2 (v := lI (-1000000)) rfl rfl rfl ?_
      refine a_ldc2 (v := lI (1000000)) rfl rfl rfl ?_
      refine a_lload_3 rfl rfl ?_
      refine a_minlZ rfl rfl (Nat.le_of_ble_eq_true rfl) (by omega) (by omega) ?_
      refine a_maxlZ rfl rfl (Nat.le_of_ble_eq_true rfl) (by omega) (by omega) ?_
      refine a_l2iZ rfl rfl ?_
      refine av_to (a_iret rfl rfl) ?_
      show _ = (some (Value.int (iI (b01 (¬ y = x)))), σ)
      first | (rw [b01_T (by omega)]; rfl) | (rw [b01_F (by omega)]; rfl)
    · refine a_lconst (v := lI 1) rfl rfl rfl ?_
      refine a_goto rfl rfl ?_
      refine a_lstore_3 rfl rfl rfl ?_
      refine a_ldc2 (v := lI (-1000000)) rfl rfl rfl ?_
      refine a_ldc2 (v := lI (1000000)) rfl rfl rfl ?_
      refine a_lload_3 rfl rfl ?_
      refine a_minlZ rfl rfl (Nat.le_of_ble_eq_true rfl) (by omega) (by omega) ?_
      refine a_maxlZ rfl rfl (Nat.le_of_ble_eq_true rfl) (by omega) (by omega) ?_
      refine a_l2iZ rfl rfl ?_
      refine av_to (a_iret rfl rfl) ?_
      show _ = (some (Value.int (iI (b01 (¬ y = x)))), σ)
      first | (rw [b01_T (by omega)]; rfl) | (rw [b01_F (by omega)]; rfl)
  · show avA _ 108 0 [.int (nI 43), .int (iI (y)), .int (iI (x)), mvU, mvU] [] _ _
    refine a_lconst (v := lI 0) rfl rfl rfl ?_
    refine a_lstore_3 rfl rfl rfl ?_
    refine a_iload_0 rfl rfl ?_
    refine a_tabIn rfl (by decide) rfl rfl ?_
    refine a_iload_1 rfl rfl ?_
    refine a_iload_2 rfl rfl ?_
    refine a_cmpI_gt rfl rfl rfl (iI_toInt (by omega) (by omega)) (iI_toInt (by omega) (by omega)) (fun c_195 => ?_) (fun c_195 => ?_)
    · refine a_lconst (v := lI 0) rfl rfl rfl ?_
      refine a_lstore_3 rfl rfl rfl ?_
      refine a_goto rfl rfl ?_
      refine a_ldc2 (v := lI (-1000000)) rfl rfl rfl ?_
      refine a_ldc2 (v := lI (1000000)) rfl rfl rfl ?_
      refine a_lload_3 rfl rfl ?_
      refine a_minlZ rfl rfl (Nat.le_of_ble_eq_true rfl) (by omega) (by omega) ?_
      refine a_maxlZ rfl rfl (Nat.le_of_ble_eq_true rfl) (by omega) (by omega) ?_
      refine a_l2iZ rfl rfl ?_
      refine av_to (a_iret rfl rfl) ?_
      show _ = (some (Value.int (iI (b01 (y ≤ x)))), σ)
      first | (rw [b01_T (by omega)]; rfl) | (rw [b01_F (by omega)]; rfl)
    · refine a_lconst (v := lI 1) rfl rfl rfl ?_
      refine a_goto rfl rfl ?_
      refine a_lstore_3 rfl rfl rfl ?_
      refine a_goto rfl rfl ?_
      refine a_ldc2 (v := lI (-1000000)) rfl rfl rfl ?_
      refine a_ldc2 (v := lI (1000000)) rfl rfl rfl ?_
      refine a_lload_3 rfl rfl ?_
      refine a_minlZ rfl rfl (Nat.le_of_ble_eq_true rfl) (by omega) (by omega) ?_
      refine a_maxlZ rfl rfl (Nat.le_of_ble_eq_true rfl) (by omega) (by omega) ?_
      refine a_l2iZ rfl rfl ?_
      refine av_to (a_iret rfl rfl) ?_
      show _ = (some (Value.int (iI (b01 (y ≤ x)))), σ)
      first | (rw [b01_T (by omega)]; rfl) | (rw [b01_F (by omega)]; rfl)
  · show avA _ 108 0 [.int (nI 44), .int (iI (y)), .int (iI (x)), mvU, mvU] [] _ _
    refine a_lconst (v := lI 0) rfl rfl rfl ?_
    refine a_lstore_3 rfl rfl rfl ?_
    refine a_iload_0 rfl rfl ?_
    refine a_tabIn rfl (by decide) rfl rfl ?_
    refine a_iload_1 rfl rfl ?_
    refine a_iload_2 rfl rfl ?_
    refine a_cmpI_lt rfl rfl rfl (iI_toInt (by omega) (by omega)) (iI_toInt (by omega) (by omega)) (fun c_223 => ?_) (fun c_223 => ?_)
    · refine a_lconst (v := lI 0) rfl rfl rfl ?_
      refine a_lstore_3 rfl rfl rfl ?_
      refine a_goto rfl rfl ?_
      refine a_ldc2 (v := lI (-1000000)) rfl rfl rfl ?_
      refine a_ldc2 (v := lI (1000000)) rfl rfl rfl ?_
      refine a_lload_3 rfl rfl ?_
      refine a_minlZ rfl rfl (Nat.le_of_ble_eq_true rfl) (by omega) (by omega) ?_
      refine a_maxlZ rfl rfl (Nat.le_of_ble_eq_true rfl) (by omega) (by omega) ?_
      refine a_l2iZ rfl rfl ?_
      refine av_to (a_iret rfl rfl) ?_
      show _ = (some (Value.int (iI (b01 (x ≤ y)))), σ)
      first | (rw [b01_T (by omega)]; rfl) | (rw [b01_F (by omega)]; rfl)
    · refine a_lconst (v := lI 1) rfl rfl rfl ?_
      refine a_goto rfl rfl ?_
      refine a_lstore_3 rfl rfl rfl ?_
      refine a_goto rfl rfl ?_
      refine a_ldc2 (v := lI (-1000000)) rfl rfl rfl ?_
      refine a_ldc2 (v := lI (1000000)) rfl rfl rfl ?_
      refine a_lload_3 rfl rfl ?_
      refine a_minlZ rfl rfl (Nat.le_of_ble_eq_true rfl) (by omega) (by omega) ?_
      refine a_maxlZ rfl rfl (Nat.le_of_ble_eq_true rfl) (by omega) (by omega) ?_
      refine a_l2iZ rfl rfl ?_
      refine av_to (a_iret rfl rfl) ?_
      show _ = (some (Value.int (iI (b01 (x ≤ y)))), σ)
      first | (rw [b01_T (by omega)]; rfl) | (rw [b01_F (by omega)]; rfl)
  · have hb := b01_B (¬ (y = 0 ∧ x = 0))
    show avA _ 108 0 [.int (nI 28), .int (iI (y)), .int (iI (x)), mvU, mvU] [] _ _
    refine a_lconst (v := lI 0) rfl rfl rfl ?_
    refine a_lstore_3 rfl rfl rfl ?_
    refine a_iload_0 rfl rfl ?_
    refine a_tabIn rfl (by decide) rfl rfl ?_
    refine a_iload_1 rfl rfl ?_
    refine a_iload_2 rfl rfl ?_
    refine a_ior rfl rfl ?_
    refine a_as (y := iI (b01 (¬ (y = 0 ∧ x = 0)))) (or01 b1 b2) ?_
    refine a_i2lZ rfl rfl (by omega) ?_
    refine a_lstore_3 rfl rfl rfl ?_
    refine a_goto rfl rfl ?_
    refine a_ldc2 (v := lI (-1000000)) rfl rfl rfl ?_
    refine a_ldc2 (v := lI (1000000)) rfl rfl rfl ?_
    refine a_lload_3 rfl rfl ?_
    refine a_minlZ rfl rfl (Nat.le_of_ble_eq_true rfl) (by omega) (by omega) ?_
    refine a_maxlZ rfl rfl (Nat.le_of_ble_eq_true rfl) (by omega) (by omega) ?_
    refine a_l2iZ rfl rfl ?_
    refine av_to (a_iret rfl rfl) ?_
    exact congrArg (fun v => (some (Value.int (iI v)), σ)) (show max (-1000000) (min 1000000 (b01 (¬ (y = 0 ∧ x = 0)))) = b01 (¬ (y = 0 ∧ x = 0)) from b01_clp _)
  · have hb := b01_B (y = 1 ∧ x = 1)
    show avA _ 108 0 [.int (nI 29), .int (iI (y)), .int (iI (x)), mvU, mvU] [] _ _
    refine a_lconst (v := lI 0) rfl rfl rfl ?_
    refine a_lstore_3 rfl rfl rfl ?_
    refine a_iload_0 rfl rfl ?_
    refine a_tabIn rfl (by decide) rfl rfl ?_
    refine a_iload_1 rfl rfl ?_
    refine a_iload_2 rfl rfl ?_
    refine a_iand rfl rfl ?_
    refine a_as (y := iI (b01 (y = 1 ∧ x = 1))) (and01 b1 b2) ?_
    refine a_i2lZ rfl rfl (by omega) ?_
    refine a_lstore_3 rfl rfl rfl ?_
    refine a_goto rfl rfl ?_
    refine a_ldc2 (v := lI (-1000000)) rfl rfl rfl ?_
    refine a_ldc2 (v := lI (1000000)) rfl rfl rfl ?_
    refine a_lload_3 rfl rfl ?_
    refine a_minlZ rfl rfl (Nat.le_of_ble_eq_true rfl) (by omega) (by omega) ?_
    refine a_maxlZ rfl rfl (Nat.le_of_ble_eq_true rfl) (by omega) (by omega) ?_
    refine a_l2iZ rfl rfl ?_
    refine av_to (a_iret rfl rfl) ?_
    exact congrArg (fun v => (some (Value.int (iI v)), σ)) (show max (-1000000) (min 1000000 (b01 (y = 1 ∧ x = 1))) = b01 (y = 1 ∧ x = 1) from b01_clp _)
theorem jnZ_B {sg : Nat} {y x : Int} (hs : jnOk sg y x) (hy : -1000000 ≤ y ∧ y ≤ 1000000) (hx : -1000000 ≤ x ∧ x ≤ 1000000) : -1000000 ≤ jnZ sg y x ∧ jnZ sg y x ≤ 1000000 := by
  have h2 := tdiv2B hx hy
  have q : ∀ (p : Prop) [Decidable p], -1000000 ≤ b01 p ∧ b01 p ≤ 1000000 := fun p _ => by have := b01_B p; omega
  rcases hs with (rfl | rfl | rfl | rfl | rfl | rfl | rfl | rfl | rfl | rfl | rfl) | ⟨rfl | rfl, b1, b2⟩
  · exact clp_B _
  · exact clp_B _
  · exact clp_B _
  · show -1000000 ≤ (if x = 0 then 0 else clp (y.tdiv x)) ∧ (if x = 0 then 0 else clp (y.tdiv x)) ≤ 1000000
    have := clp_B (y.tdiv x)
    split <;> omega
  · exact h2
  all_goals exact q _
theorem e_clipZ {σ : mvSt} (v : Int) (m : Nat) (hv : -1000000 ≤ v ∧ v ≤ 1000000) (hm : m ≤ 100000) : avE 0 107 [.int (iI v), .int (nI m)] σ (some (.int (nI (clN v m))), σ) := by
  rw [← iI_nat m]
  show avA _ 107 0 [.int (iI (v)), .int (iI (m))] [] _ _
  refine a_iconst (v := iI (0)) rfl rfl rfl ?_
  refine a_iload_1 rfl rfl ?_
  refine a_iload_0 rfl rfl ?_
  refine a_minZ rfl rfl (Nat.le_of_ble_eq_true rfl) (by omega) (by omega) ?_
  refine a_maxZ rfl rfl (Nat.le_of_ble_eq_true rfl) (by omega) (by omega) ?_
  refine av_to (a_iret rfl rfl) ?_
  refine congrArg (fun v => (some (Value.int v), σ)) ?_
  rw [← iI_nat]
  unfold clN
  congr 1
  omega
theorem r_clip {σ : mvSt} (v : Int) (hv : -1000000000000 ≤ v ∧ v ≤ 1000000000000) : avE 0 264 [.long (lI v)] σ (some (.long (lI (clp v))), σ) := by
  show avA _ 264 0 [.long (lI (v)), mvU] [] _ _
  refine a_lload_0 rfl rfl ?_
  refine a_ldc2 (v := lI (1000000)) rfl rfl rfl ?_
  refine a_lcmp rfl rfl ?_
  refine a_lc_le rfl rfl rfl (lI_toInt (by omega) (by omega)) (lI_toInt (by omega) (by omega)) (fun c_5 => ?_) (fun c_5 => ?_)
  · refine a_lload_0 rfl rfl ?_
    refine a_ldc2 (v := lI (-1000000)) rfl rfl rfl ?_
    refine a_lcmp rfl rfl ?_
    refine a_lc_ge rfl rfl rfl (lI_toInt (by omega) (by omega)) (lI_toInt (by omega) (by omega)) (fun c_19 => ?_) (fun c_19 => ?_)
    · refine a_lload_0 rfl rfl ?_
      refine av_to (a_lret rfl rfl) ?_
      refine congrArg (fun v => (some (Value.long (lI v)), σ)) ?_
      unfold clp
      omega
    · refine a_ldc2 (v := lI (-1000000)) rfl rfl rfl ?_
      refine a_goto rfl rfl ?_
      refine av_to (a_lret rfl rfl) ?_
      refine congrArg (fun v => (some (Value.long (lI v)), σ)) ?_
      unfold clp
      omega
  · refine a_ldc2 (v := lI (1000000)) rfl rfl rfl ?_
    refine a_goto rfl rfl ?_
    refine av_to (a_lret rfl rfl) ?_
    refine congrArg (fun v => (some (Value.long (lI v)), σ)) ?_
    unfold clp
    omega
theorem r_cut {σ : mvSt} (v : Int) (m : Nat) (hv : -1000000 ≤ v ∧ v ≤ 1000000) (hm : m ≤ 100000) : avE 0 267 [.long (lI v), .int (nI 0), .int (nI m)] σ (some (.int (nI (clN v m))), σ) := by
  rw [show nI 0 = iI 0 from rfl, ← iI_nat m]
  show avA _ 267 0 [.long (lI (v)), mvU, .int (iI (0)), .int (iI (m))] [] _ _
  refine a_lload_0 rfl rfl ?_
  refine a_iload_2 rfl rfl ?_
  refine a_i2lZ rfl rfl (by omega) ?_
  refine a_lcmp rfl rfl ?_
  refine a_lc_ge rfl rfl rfl (lI_toInt (by omega) (by omega)) (lI_toInt (by omega) (by omega)) (fun c_4 => ?_) (fun c_4 => ?_)
  · refine a_lload_0 rfl rfl ?_
    refine a_iload_3 rfl rfl ?_
    refine a_i2lZ rfl rfl (by omega) ?_
    refine a_lcmp rfl rfl ?_
    refine a_lc_le rfl rfl rfl (lI_toInt (by omega) (by omega)) (lI_toInt (by omega) (by omega)) (fun c_15 => ?_) (fun c_15 => ?_)
    · refine a_lload_0 rfl rfl ?_
      refine a_l2iZ rfl rfl ?_
      refine av_to (a_iret rfl rfl) ?_
      refine congrArg (fun v => (some (Value.int v), σ)) ?_
      rw [← iI_nat]
      unfold clN
      congr 1
      omega
    · refine a_iload_3 rfl rfl ?_
      refine a_goto rfl rfl ?_
      refine av_to (a_iret rfl rfl) ?_
      refine congrArg (fun v => (some (Value.int v), σ)) ?_
      rw [← iI_nat]
      unfold clN
      congr 1
      omega
  · refine a_iload_2 rfl rfl ?_
    refine a_goto rfl rfl ?_
    refine av_to (a_iret rfl rfl) ?_
    refine congrArg (fun v => (some (Value.int v), σ)) ?_
    rw [← iI_nat]
    unfold clN
    congr 1
    omega
def twZ (o : Nat) (y x : Int) : Int := match o with
  | 6 => clp (y + x)
  | 7 => clp (y - x)
  | 8 => clp (y * x)
  | _ => if x = 0 then 0 else clp (y.tdiv x)
theorem r_two {σ : mvSt} (o : Nat) (y x : Int) (ho : o = 6 ∨ o = 7 ∨ o = 8 ∨ o = 9) (hy : -1000000 ≤ y ∧ y ≤ 1000000) (hx : -1000000 ≤ x ∧ x ≤ 1000000) : avE 1 263 [.int (nI o), .long (lI y), .long (lI x)] σ (some (.long (lI (twZ o y x))), σ) := by
  have hm := mulB hx hy
  have hd := tdivB (x := x) hy
  rcases ho with rfl | rfl | rfl | rfl
  · show avA _ 263 0 [.int (nI 6), .long (lI (y)), mvU, .long (lI (x)), mvU] [] _ _
    refine a_iload_0 rfl rfl ?_
    refine a_tabIn rfl (by decide) rfl rfl ?_
    refine a_lload_1 rfl rfl ?_
    refine a_lload_3 rfl rfl ?_
    refine a_laddZ rfl rfl ?_
    refine a_statL rfl rfl (r_clip _ (by omega)) (Nat.le_of_ble_eq_true rfl) ⟨rfl, rfl, rfl⟩ rfl rfl rfl (Nat.le_of_ble_eq_true rfl) rfl ?_
    refine av_to (a_lret rfl rfl) ?_
    first | rfl | (show _ = (some (Value.long (lI (if x = 0 then 0 else clp (y.tdiv x)))), σ); first | (rw [if_pos ‹x = 0›]) | (rw [if_neg ‹¬ x = 0›]))
  · show avA _ 263 0 [.int (nI 7), .long (lI (y)), mvU, .long (lI (x)), mvU] [] _ _
    refine a_iload_0 rfl rfl ?_
    refine a_tabIn rfl (by decide) rfl rfl ?_
    refine a_lload_1 rfl rfl ?_
    refine a_lload_3 rfl rfl ?_
    refine a_lsubZ rfl rfl ?_
    refine a_statL rfl rfl (r_clip _ (by omega)) (Nat.le_of_ble_eq_true rfl) ⟨rfl, rfl, rfl⟩ rfl rfl rfl (Nat.le_of_ble_eq_true rfl) rfl ?_
    refine av_to (a_lret rfl rfl) ?_
    first | rfl | (show _ = (some (Value.long (lI (if x = 0 then 0 else clp (y.tdiv x)))), σ); first | (rw [if_pos ‹x = 0›]) | (rw [if_neg ‹¬ x = 0›]))
  · show avA _ 263 0 [.int (nI 8), .long (lI (y)), mvU, .long (lI (x)), mvU] [] _ _
    refine a_iload_0 rfl rfl ?_
    refine a_tabIn rfl (by decide) rfl rfl ?_
    refine a_lload_1 rfl rfl ?_
    refine a_lload_3 rfl rfl ?_
    refine a_lmulZ rfl rfl ?_
    refine a_statL rfl rfl (r_clip _ (by omega)) (Nat.le_of_ble_eq_true rfl) ⟨rfl, rfl, rfl⟩ rfl rfl rfl (Nat.le_of_ble_eq_true rfl) rfl ?_
    refine av_to (a_lret rfl rfl) ?_
    first | rfl | (show _ = (some (Value.long (lI (if x = 0 then 0 else clp (y.tdiv x)))), σ); first | (rw [if_pos ‹x = 0›]) | (rw [if_neg ‹¬ x = 0›]))
  · show avA _ 263 0 [.int (nI 9), .long (lI (y)), mvU, .long (lI (x)), mvU] [] _ _
    refine a_iload_0 rfl rfl ?_
    refine a_tabOut rfl (by decide) rfl ?_
    refine a_lload_3 rfl rfl ?_
    refine a_lconst (v := lI 0) rfl rfl rfl ?_
    refine a_lcmp rfl rfl ?_
    refine a_lc_ne rfl rfl rfl (lI_toInt (by omega) (by omega)) (lI_toInt (by omega) (by omega)) (fun c_52 => ?_) (fun c_52 => ?_)
    · refine a_lload_1 rfl rfl ?_
      refine a_lload_3 rfl rfl ?_
      refine a_ldivZ rfl rfl (by omega) (by omega) (by omega) ?_
      refine a_statL rfl rfl (r_clip _ (by omega)) (Nat.le_of_ble_eq_true rfl) ⟨rfl, rfl, rfl⟩ rfl rfl rfl (Nat.le_of_ble_eq_true rfl) rfl ?_
      refine av_to (a_lret rfl rfl) ?_
      first | rfl | (show _ = (some (Value.long (lI (if x = 0 then 0 else clp (y.tdiv x)))), σ); first | (rw [if_pos ‹x = 0›]) | (rw [if_neg ‹¬ x = 0›]))
    · refine a_lconst (v := lI 0) rfl rfl rfl ?_
      refine a_goto rfl rfl ?_
      refine av_to (a_lret rfl rfl) ?_
      first | rfl | (show _ = (some (Value.long (lI (if x = 0 then 0 else clp (y.tdiv x)))), σ); first | (rw [if_pos ‹x = 0›]) | (rw [if_neg ‹¬ x = 0›]))
theorem r_meanOf {σ : mvSt} (y x : Int) (hy : -1000000 ≤ y ∧ y ≤ 1000000) (hx : -1000000 ≤ x ∧ x ≤ 1000000) : avE 0 262 [.long (lI y), .long (lI x)] σ (some (.long (lI ((y + x).tdiv 2))), σ) := by
  show avA _ 262 0 [.long (lI (y)), mvU, .long (lI (x)), mvU] [] _ _
  refine a_lload_0 rfl rfl ?_
  refine a_lload_2 rfl rfl ?_
  refine a_laddZ rfl rfl ?_
  refine a_ldc2 (v := lI (2)) rfl rfl rfl ?_
  refine a_ldivZ rfl rfl (by omega) (by omega) (by omega) ?_
  exact a_lret rfl rfl
def askZ (o : Nat) (y x : Int) : Bool := match o with
  | 10 => decide (y < x)
  | 11 => decide (y ≤ x)
  | 12 => decide (x < y)
  | 13 => decide (x ≤ y)
  | 14 => decide (y = x)
  | _ => decide (¬ y = x)
def bB (b : Bool) : Int32 := bI (b = true)
theorem bB_T {b : Bool} (h : b = true) : bB b = 1 := bI_T h
theorem bB_F {b : Bool} (h : b = false) : bB b = 0 := bI_F (by rw [h]; decide)
theorem bB_01 (b : Bool) : bB b = 0 ∨ bB b = 1 := bI_01 _
theorem r_isAsked {σ : mvSt} (o : Nat) (y x : Int) (ho : 10 ≤ o ∧ o ≤ 15) (hy : -1000000 ≤ y ∧ y ≤ 1000000) (hx : -1000000 ≤ x ∧ x ≤ 1000000) : avE 0 265 [.int (nI o), .long (lI y), .long (lI x)] σ (some (.int (bB (askZ o y x))), σ) := by
  have h6 : o = 10 ∨ o = 11 ∨ o = 12 ∨ o = 13 ∨ o = 14 ∨ o = 15 := by omega
  rcases h6 with rfl | rfl | rfl | rfl | rfl | rfl
  · show avE 0 265 _ σ (some (.int (bI (decide (y < x) = true))), σ)
    show avA _ 265 0 [.int (nI 10), .long (lI (y)), mvU, .long (lI (x)), mvU] [] _ _
    refine a_iload_0 rfl rfl ?_
    refine a_bipush (v := (nI 10)) rfl rfl rfl ?_
    refine a_cmpN_ne rfl rfl rfl (by omega) (by omega) (fun c_3 => absurd c_3 (by decide)) (fun _ => ?_)
    refine a_lload_1 rfl rfl ?_
    refine a_lload_3 rfl rfl ?_
    refine a_lcmp rfl rfl ?_
    refine a_lc_ge rfl rfl rfl (lI_toInt (by omega) (by omega)) (lI_toInt (by omega) (by omega)) (fun c_9 => ?_) (fun c_9 => ?_)
    · refine a_iconst (v := (nI 0)) rfl rfl rfl ?_
      refine a_goto rfl rfl ?_
      refine av_to (a_zret rfl rfl (Or.inl rfl)) (bz0 ?_)
      simp only [decide_eq_true_eq]; omega
    · refine a_iconst (v := (nI 1)) rfl rfl rfl ?_
      refine a_goto rfl rfl ?_
      refine av_to (a_zret rfl rfl (Or.inr rfl)) (bz1 ?_)
      simp only [decide_eq_true_eq]; omega
  · show avE 0 265 _ σ (some (.int (bI (decide (y ≤ x) = true))), σ)
    show avA _ 265 0 [.int (nI 11), .long (lI (y)), mvU, .long (lI (x)), mvU] [] _ _
    refine a_iload_0 rfl rfl ?_
    refine a_bipush (v := (nI 10)) rfl rfl rfl ?_
    refine a_cmpN_ne rfl rfl rfl (by omega) (by omega) (fun _ => ?_) (fun c_3 => absurd c_3 (by decide))
    refine a_iload_0 rfl rfl ?_
    refine a_bipush (v := (nI 11)) rfl rfl rfl ?_
    refine a_cmpN_ne rfl rfl rfl (by omega) (by omega) (fun c_23 => absurd c_23 (by decide)) (fun _ => ?_)
    refine a_lload_1 rfl rfl ?_
    refine a_lload_3 rfl rfl ?_
    refine a_lcmp rfl rfl ?_
    refine a_lc_gt rfl rfl rfl (lI_toInt (by omega) (by omega)) (lI_toInt (by omega) (by omega)) (fun c_29 => ?_) (fun c_29 => ?_)
    · refine a_iconst (v := (nI 0)) rfl rfl rfl ?_
      refine a_goto rfl rfl ?_
      refine av_to (a_zret rfl rfl (Or.inl rfl)) (bz0 ?_)
      simp only [decide_eq_true_eq]; omega
    · refine a_iconst (v := (nI 1)) rfl rfl rfl ?_
      refine a_goto rfl rfl ?_
      refine av_to (a_zret rfl rfl (Or.inr rfl)) (bz1 ?_)
      simp only [decide_eq_true_eq]; omega
  · show avE 0 265 _ σ (some (.int (bI (decide (x < y) = true))), σ)
    show avA _ 265 0 [.int (nI 12), .long (lI (y)), mvU, .long (lI (x)), mvU] [] _ _
    refine a_iload_0 rfl rfl ?_
    refine a_bipush (v := (nI 10)) rfl rfl rfl ?_
    refine a_cmpN_ne rfl rfl rfl (by omega) (by omega) (fun _ => ?_) (fun c_3 => absurd c_3 (by decide))
    refine a_iload_0 rfl rfl ?_
    refine a_bipush (v := (nI 11)) rfl rfl rfl ?_
    refine a_cmpN_ne rfl rfl rfl (by omega) (by omega) (fun _ => ?_) (fun c_23 => absurd c_23 (by decide))
    refine a_iload_0 rfl rfl ?_
    refine a_bipush (v := (nI 12)) rfl rfl rfl ?_
    refine a_cmpN_ne rfl rfl rfl (by omega) (by omega) (fun c_43 => absurd c_43 (by decide)) (fun _ => ?_)
    refine a_lload_1 rfl rfl ?_
    refine a_lload_3 rfl rfl ?_
    refine a_lcmp rfl rfl ?_
    refine a_lc_le rfl rfl rfl (lI_toInt (by omega) (by omega)) (lI_toInt (by omega) (by omega)) (fun c_49 => ?_) (fun c_49 => ?_)
    · refine a_iconst (v := (nI 0)) rfl rfl rfl ?_
      refine a_goto rfl rfl ?_
      refine av_to (a_zret rfl rfl (Or.inl rfl)) (bz0 ?_)
      simp only [decide_eq_true_eq]; omega
    · refine a_iconst (v := (nI 1)) rfl rfl rfl ?_
      refine a_goto rfl rfl ?_
      refine av_to (a_zret rfl rfl (Or.inr rfl)) (bz1 ?_)
      simp only [decide_eq_true_eq]; omega
  · show avE 0 265 _ σ (some (.int (bI (decide (x ≤ y) = true))), σ)
    show avA _ 265 0 [.int (nI 13), .long (lI (y)), mvU, .long (lI (x)), mvU] [] _ _
    refine a_iload_0 rfl rfl ?_
    refine a_bipush (v := (nI 10)) rfl rfl rfl ?_
    refine a_cmpN_ne rfl rfl rfl (by omega) (by omega) (fun _ => ?_) (fun c_3 => absurd c_3 (by decide))
    refine a_iload_0 rfl rfl ?_
    refine a_bipush (v := (nI 11)) rfl rfl rfl ?_
    refine a_cmpN_ne rfl rfl rfl (by omega) (by omega) (fun _ => ?_) (fun c_23 => absurd c_23 (by decide))
    refine a_iload_0 rfl rfl ?_
    refine a_bipush (v := (nI 12)) rfl rfl rfl ?_
    refine a_cmpN_ne rfl rfl rfl (by omega) (by omega) (fun _ => ?_) (fun c_43 => absurd c_43 (by decide))
    refine a_iload_0 rfl rfl ?_
    refine a_bipush (v := (nI 13)) rfl rfl rfl ?_
    refine a_cmpN_ne rfl rfl rfl (by omega) (by omega) (fun c_63 => absurd c_63 (by decide)) (fun _ => ?_)
    refine a_lload_1 rfl rfl ?_
    refine a_lload_3 rfl rfl ?_
    refine a_lcmp rfl rfl ?_
    refine a_lc_lt rfl rfl rfl (lI_toInt (by omega) (by omega)) (lI_toInt (by omega) (by omega)) (fun c_69 => ?_) (fun c_69 => ?_)
    · refine a_iconst (v := (nI 0)) rfl rfl rfl ?_
      refine a_goto rfl rfl ?_
      refine av_to (a_zret rfl rfl (Or.inl rfl)) (bz0 ?_)
      simp only [decide_eq_true_eq]; omega
    · refine a_iconst (v := (nI 1)) rfl rfl rfl ?_
      refine a_goto rfl rfl ?_
      refine av_to (a_zret rfl rfl (Or.inr rfl)) (bz1 ?_)
      simp only [decide_eq_true_eq]; omega
  · show avE 0 265 _ σ (some (.int (bI (decide (y = x) = true))), σ)
    show avA _ 265 0 [.int (nI 14), .long (lI (y)), mvU, .long (lI (x)), mvU] [] _ _
    refine a_iload_0 rfl rfl ?_
    refine a_bipush (v := (nI 10)) rfl rfl rfl ?_
    refine a_cmpN_ne rfl rfl rfl (by omega) (by omega) (fun _ => ?_) (fun c_3 => absurd c_3 (by decide))
    refine a_iload_0 rfl rfl ?_
    refine a_bipush (v := (nI 11)) rfl rfl rfl ?_
    refine a_cmpN_ne rfl rfl rfl (by omega) (by omega) (fun _ => ?_) (fun c_23 => absurd c_23 (by decide))
    refine a_iload_0 rfl rfl ?_
    refine a_bipush (v := (nI 12)) rfl rfl rfl ?_
    refine a_cmpN_ne rfl rfl rfl (by omega) (by omega) (fun _ => ?_) (fun c_43 => absurd c_43 (by decide))
    refine a_iload_0 rfl rfl ?_
    refine a_bipush (v := (nI 13)) rfl rfl rfl ?_
    refine a_cmpN_ne rfl rfl rfl (by omega) (by omega) (fun _ => ?_) (fun c_63 => absurd c_63 (by decide))
    refine a_iload_0 rfl rfl ?_
    refine a_bipush (v := (nI 14)) rfl rfl rfl ?_
    refine a_cmpN_ne rfl rfl rfl (by omega) (by omega) (fun c_83 => absurd c_83 (by decide)) (fun _ => ?_)
    refine a_lload_1 rfl rfl ?_
    refine a_lload_3 rfl rfl ?_
    refine a_lcmp rfl rfl ?_
    refine a_lc_ne rfl rfl rfl (lI_toInt (by omega) (by omega)) (lI_toInt (by omega) (by omega)) (fun c_89 => ?_) (fun c_89 => ?_)
    · refine a_iconst (v := (nI 0)) rfl rfl rfl ?_
      refine a_goto rfl rfl ?_
      refine av_to (a_zret rfl rfl (Or.inl rfl)) (bz0 ?_)
      simp only [decide_eq_true_eq]; omega
    · refine a_iconst (v := (nI 1)) rfl rfl rfl ?_
      refine a_goto rfl rfl ?_
      refine av_to (a_zret rfl rfl (Or.inr rfl)) (bz1 ?_)
      simp only [decide_eq_true_eq]; omega
  · show avE 0 265 _ σ (some (.int (bI (decide (¬ y = x) = true))), σ)
    show avA _ 265 0 [.int (nI 15), .long (lI (y)), mvU, .long (lI (x)), mvU] [] _ _
    refine a_iload_0 rfl rfl ?_
    refine a_bipush (v := (nI 10)) rfl rfl rfl ?_
    refine a_cmpN_ne rfl rfl rfl (by omega) (by omega) (fun _ => ?_) (fun c_3 => absurd c_3 (by decide))
    refine a_iload_0 rfl rfl ?_
    refine a_bipush (v := (nI 11)) rfl rfl rfl ?_
    refine a_cmpN_ne rfl rfl rfl (by omega) (by omega) (fun _ => ?_) (fun c_23 => absurd c_23 (by decide))
    refine a_iload_0 rfl rfl ?_
    refine a_bipush (v := (nI 12)) rfl rfl rfl ?_
    refine a_cmpN_ne rfl rfl rfl (by omega) (by omega) (fun _ => ?_) (fun c_43 => absurd c_43 (by decide))
    refine a_iload_0 rfl rfl ?_
    refine a_bipush (v := (nI 13)) rfl rfl rfl ?_
    refine a_cmpN_ne rfl rfl rfl (by omega) (by omega) (fun _ => ?_) (fun c_63 => absurd c_63 (by decide))
    refine a_iload_0 rfl rfl ?_
    refine a_bipush (v := (nI 14)) rfl rfl rfl ?_
    refine a_cmpN_ne rfl rfl rfl (by omega) (by omega) (fun _ => ?_) (fun c_83 => absurd c_83 (by decide))
    refine a_lload_1 rfl rfl ?_
    refine a_lload_3 rfl rfl ?_
    refine a_lcmp rfl rfl ?_
    refine a_lc_eq rfl rfl rfl (lI_toInt (by omega) (by omega)) (lI_toInt (by omega) (by omega)) (fun c_103 => ?_) (fun c_103 => ?_)
    · refine a_iconst (v := (nI 0)) rfl rfl rfl ?_
      refine av_to (a_zret rfl rfl (Or.inl rfl)) (bz0 ?_)
      simp only [decide_eq_true_eq]; omega
    · refine a_iconst (v := (nI 1)) rfl rfl rfl ?_
      refine a_goto rfl rfl ?_
      refine av_to (a_zret rfl rfl (Or.inr rfl)) (bz1 ?_)
      simp only [decide_eq_true_eq]; omega
theorem r_joined {σ : mvSt} (o : Nat) (p q : Bool) (ho : o = 21 ∨ o = 22) : avE 0 266 [.int (nI o), .int (bB p), .int (bB q)] σ (some (.int (bB (if o = 21 then p && q else p || q))), σ) := by
  rcases ho with rfl | rfl
  · cases p <;> cases q
    · show avA _ 266 0 [.int (nI 21), .int (nI 0), .int (nI 0)] [] _ _
      refine a_iload_0 rfl rfl ?_
      refine a_bipush (v := (nI 21)) rfl rfl rfl ?_
      refine a_cmpN_ne rfl rfl rfl (by omega) (by omega) (fun c_3 => absurd c_3 (by decide)) (fun _ => ?_)
      refine a_iload_1 rfl rfl ?_
      refine a_ifN_eq rfl rfl rfl (by omega) (fun _ => ?_) (fun c_7 => absurd c_7 (by decide))
      refine a_iconst (v := (nI 0)) rfl rfl rfl ?_
      refine a_goto rfl rfl ?_
      exact a_zret rfl rfl (Or.inl rfl)
    · show avA _ 266 0 [.int (nI 21), .int (nI 0), .int (nI 1)] [] _ _
      refine a_iload_0 rfl rfl ?_
      refine a_bipush (v := (nI 21)) rfl rfl rfl ?_
      refine a_cmpN_ne rfl rfl rfl (by omega) (by omega) (fun c_3 => absurd c_3 (by decide)) (fun _ => ?_)
      refine a_iload_1 rfl rfl ?_
      refine a_ifN_eq rfl rfl rfl (by omega) (fun _ => ?_) (fun c_7 => absurd c_7 (by decide))
      refine a_iconst (v := (nI 0)) rfl rfl rfl ?_
      refine a_goto rfl rfl ?_
      exact a_zret rfl rfl (Or.inl rfl)
    · show avA _ 266 0 [.int (nI 21), .int (nI 1), .int (nI 0)] [] _ _
      refine a_iload_0 rfl rfl ?_
      refine a_bipush (v := (nI 21)) rfl rfl rfl ?_
      refine a_cmpN_ne rfl rfl rfl (by omega) (by omega) (fun c_3 => absurd c_3 (by decide)) (fun _ => ?_)
      refine a_iload_1 rfl rfl ?_
      refine a_ifN_eq rfl rfl rfl (by omega) (fun c_7 => absurd c_7 (by decide)) (fun _ => ?_)
      refine a_iload_2 rfl rfl ?_
      refine a_ifN_eq rfl rfl rfl (by omega) (fun _ => ?_) (fun c_11 => absurd c_11 (by decide))
      refine a_iconst (v := (nI 0)) rfl rfl rfl ?_
      refine a_goto rfl rfl ?_
      exact a_zret rfl rfl (Or.inl rfl)
    · show avA _ 266 0 [.int (nI 21), .int (nI 1), .int (nI 1)] [] _ _
      refine a_iload_0 rfl rfl ?_
      refine a_bipush (v := (nI 21)) rfl rfl rfl ?_
      refine a_cmpN_ne rfl rfl rfl (by omega) (by omega) (fun c_3 => absurd c_3 (by decide)) (fun _ => ?_)
      refine a_iload_1 rfl rfl ?_
      refine a_ifN_eq rfl rfl rfl (by omega) (fun c_7 => absurd c_7 (by decide)) (fun _ => ?_)
      refine a_iload_2 rfl rfl ?_
      refine a_ifN_eq rfl rfl rfl (by omega) (fun c_11 => absurd c_11 (by decide)) (fun _ => ?_)
      refine a_iconst (v := (nI 1)) rfl rfl rfl ?_
      refine a_goto rfl rfl ?_
      exact a_zret rfl rfl (Or.inr rfl)
  · cases p <;> cases q
    · show avA _ 266 0 [.int (nI 22), .int (nI 0), .int (nI 0)] [] _ _
      refine a_iload_0 rfl rfl ?_
      refine a_bipush (v := (nI 21)) rfl rfl rfl ?_
      refine a_cmpN_ne rfl rfl rfl (by omega) (by omega) (fun _ => ?_) (fun c_3 => absurd c_3 (by decide))
      refine a_iload_1 rfl rfl ?_
      refine a_ifN_ne rfl rfl rfl (by omega) (fun c_23 => absurd c_23 (by decide)) (fun _ => ?_)
      refine a_iload_2 rfl rfl ?_
      refine a_ifN_eq rfl rfl rfl (by omega) (fun _ => ?_) (fun c_27 => absurd c_27 (by decide))
      refine a_iconst (v := (nI 0)) rfl rfl rfl ?_
      exact a_zret rfl rfl (Or.inl rfl)
    · show avA _ 266 0 [.int (nI 22), .int (nI 0), .int (nI 1)] [] _ _
      refine a_iload_0 rfl rfl ?_
      refine a_bipush (v := (nI 21)) rfl rfl rfl ?_
      refine a_cmpN_ne rfl rfl rfl (by omega) (by omega) (fun _ => ?_) (fun c_3 => absurd c_3 (by decide))
      refine a_iload_1 rfl rfl ?_
      refine a_ifN_ne rfl rfl rfl (by omega) (fun c_23 => absurd c_23 (by decide)) (fun _ => ?_)
      refine a_iload_2 rfl rfl ?_
      refine a_ifN_eq rfl rfl rfl (by omega) (fun c_27 => absurd c_27 (by decide)) (fun _ => ?_)
      refine a_iconst (v := (nI 1)) rfl rfl rfl ?_
      refine a_goto rfl rfl ?_
      exact a_zret rfl rfl (Or.inr rfl)
    · show avA _ 266 0 [.int (nI 22), .int (nI 1), .int (nI 0)] [] _ _
      refine a_iload_0 rfl rfl ?_
      refine a_bipush (v := (nI 21)) rfl rfl rfl ?_
      refine a_cmpN_ne rfl rfl rfl (by omega) (by omega) (fun _ => ?_) (fun c_3 => absurd c_3 (by decide))
      refine a_iload_1 rfl rfl ?_
      refine a_ifN_ne rfl rfl rfl (by omega) (fun _ => ?_) (fun c_23 => absurd c_23 (by decide))
      refine a_iconst (v := (nI 1)) rfl rfl rfl ?_
      refine a_goto rfl rfl ?_
      exact a_zret rfl rfl (Or.inr rfl)
    · show avA _ 266 0 [.int (nI 22), .int (nI 1), .int (nI 1)] [] _ _
      refine a_iload_0 rfl rfl ?_
      refine a_bipush (v := (nI 21)) rfl rfl rfl ?_
      refine a_cmpN_ne rfl rfl rfl (by omega) (by omega) (fun _ => ?_) (fun c_3 => absurd c_3 (by decide))
      refine a_iload_1 rfl rfl ?_
      refine a_ifN_ne rfl rfl rfl (by omega) (fun _ => ?_) (fun c_23 => absurd c_23 (by decide))
      refine a_iconst (v := (nI 1)) rfl rfl rfl ?_
      refine a_goto rfl rfl ?_
      exact a_zret rfl rfl (Or.inr rfl)
