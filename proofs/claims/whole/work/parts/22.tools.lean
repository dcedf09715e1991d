/-! TOOLS FOR THE WALKS: depth, answers, ints as naturals, bits -/
theorem mv_deeper (n : Nat) : ∀ (d k pc : Nat) (L st : List Value) (σ : mvSt) (r : Option Value × mvSt), mvRun n d k pc L st σ = some r → mvRun n (d + 1) k pc L st σ = some r := by
  induction n with
  | zero => intro d k pc L st σ r h; exact absurd h (by simp [mvRun])
  | succ n ih =>
    intro d k pc L st σ r h
    rw [mvRun] at h ⊢
    split at h
    · exact absurd h (by simp)
    · exact ih _ _ _ _ _ _ _ h
    · exact h
    · rename_i y as rest hs
      match d, h with
      | 0, h => exact absurd h (by simp)
      | d + 1, h =>
        dsimp only at h ⊢
        split at h
        · exact absurd h (by simp)
        · rename_i v σ' hr
          rw [ih _ _ _ _ _ _ _ hr]
          exact ih _ _ _ _ _ _ _ h
theorem av_up1 {d k pc : Nat} {L st : List Value} {σ : mvSt} {r : Option Value × mvSt} (C : avA d k pc L st σ r) : avA (d + 1) k pc L st σ r := by
  obtain ⟨N, hN⟩ := C
  exact ⟨N, fun n hn => mv_deeper n d k pc L st σ r (hN n hn)⟩
theorem av_up {c d k : Nat} {as : List Value} {σ : mvSt} {r : Option Value × mvSt} (C : avE c k as σ r) (h : c ≤ d) : avE d k as σ r := by
  obtain ⟨e, rfl⟩ := Nat.exists_eq_add_of_le h
  induction e with
  | zero => exact C
  | succ e ih => exact av_up1 (ih (by omega))
def bI (p : Prop) [Decidable p] : Int32 := if p then 1 else 0
theorem bI_01 (p : Prop) [Decidable p] : bI p = 0 ∨ bI p = 1 := by
  unfold bI
  split
  · exact Or.inr rfl
  · exact Or.inl rfl
theorem bI_T {p : Prop} [Decidable p] (h : p) : bI p = 1 := if_pos h
theorem bI_F {p : Prop} [Decidable p] (h : ¬ p) : bI p = 0 := if_neg h
theorem bI_0 {p : Prop} [Decidable p] : bI p = 0 ↔ ¬ p := by
  unfold bI
  split
  · rename_i h
    exact ⟨fun e => absurd e (by decide), fun e => absurd h e⟩
  · rename_i h
    exact ⟨fun _ => h, fun _ => rfl⟩
theorem bI_iff {p q : Prop} [Decidable p] [Decidable q] (h : p ↔ q) : bI p = bI q := by
  unfold bI
  by_cases hp : p
  · rw [if_pos hp, if_pos (h.mp hp)]
  · rw [if_neg hp, if_neg (fun e => hp (h.mpr e))]
theorem bI_b {p q : Prop} [Decidable p] [Decidable q] (h : p ↔ q) : (some (Value.int (bI p))) = some (Value.int (bI q)) := by rw [bI_iff h]
theorem bz1 {p : Prop} [Decidable p] {σ : mvSt} (h : p) : ((some (Value.int (nI 1)), σ) : Option Value × mvSt) = (some (.int (bI p)), σ) := by rw [bI_T h]; rfl
theorem bz0 {p : Prop} [Decidable p] {σ : mvSt} (h : ¬ p) : ((some (Value.int (nI 0)), σ) : Option Value × mvSt) = (some (.int (bI p)), σ) := by rw [bI_F h]; rfl
theorem nI_inc (a k : Nat) : nI a + Int32.ofInt (k : Int) = nI (a + k) := by
  have e : Int32.ofInt (k : Int) = nI k := by
    show Int32.ofInt ((k : Nat) : Int) = Int32.ofNat k
    apply Int32.toBitVec_inj.1
    simp
  rw [e, nI_add]
theorem nI_dec (a k : Nat) (h : k ≤ a) : nI a + Int32.ofInt (-(k : Int)) = nI (a - k) := by
  have e : Int32.ofInt (-(k : Int)) = - nI k := by
    have e1 : Int32.ofInt ((k : Nat) : Int) = nI k := by
      show Int32.ofInt ((k : Nat) : Int) = Int32.ofNat k
      apply Int32.toBitVec_inj.1
      simp
    rw [← e1, Int32.ofInt_neg]
  rw [e, ← pk_sub h]
  exact (Int32.sub_eq_add_neg _ _).symm
section AW
variable {d k pc n : Nat} {L st : List Value} {σ : mvSt} {r : Option Value × mvSt} {l a b w : Nat} {im : Int}
variable {me : Nat × Nat × (Nat → Nat × Nat)} {h : Nat → Nat → Int32} {gl : Nat → Nat → Int64} {gr : Nat → Nat → Option Nat}
theorem a_as {x : Int32} (y : Int32) (e : x = y) (A : avA d k pc L (.int y :: st) σ r) : avA d k pc L (.int x :: st) σ r := e ▸ A
theorem a_asL {x : Int64} (y : Int64) (e : x = y) (A : avA d k pc L (.long y :: st) σ r) : avA d k pc L (.long x :: st) σ r := e ▸ A
theorem a_is {x : Option Nat} {y : Nat} (e : x = some y) (A : avA d k pc L (.ref y :: st) σ r) : avA d k pc L (mvRv x :: st) σ r := by subst e; exact A
theorem a_isN {x : Option Nat} (e : x = none) (A : avA d k pc L (.null :: st) σ r) : avA d k pc L (mvRv x :: st) σ r := by subst e; exact A
theorem a_iaddN {x y : Nat} (hC : mvC k pc = (.iadd, l, im, a, b, w)) (hn : pc + 1 = n) (A : avA d k n L (.int (nI (x + y)) :: st) σ r) : avA d k pc L (.int (nI y) :: .int (nI x) :: st) σ r := a_iadd hC hn (by rw [nI_add]; exact A)
theorem a_imulN {x y : Nat} (hC : mvC k pc = (.imul, l, im, a, b, w)) (hn : pc + 1 = n) (A : avA d k n L (.int (nI (x * y)) :: st) σ r) : avA d k pc L (.int (nI y) :: .int (nI x) :: st) σ r := a_imul hC hn (by rw [pk_mul]; exact A)
theorem a_isubN {x y : Nat} (hC : mvC k pc = (.isub, l, im, a, b, w)) (hn : pc + 1 = n) (hxy : y ≤ x) (A : avA d k n L (.int (nI (x - y)) :: st) σ r) : avA d k pc L (.int (nI y) :: .int (nI x) :: st) σ r := a_isub hC hn (by rw [pk_sub hxy]; exact A)
theorem a_idivN {x y : Nat} (hC : mvC k pc = (.idiv, l, im, a, b, w)) (hn : pc + 1 = n) (hx : x < 2 ^ 31) (h0 : 0 < y) (hy : y < 2 ^ 31) (A : avA d k n L (.int (nI (x / y)) :: st) σ r) : avA d k pc L (.int (nI y) :: .int (nI x) :: st) σ r := a_idiv hC hn (nI_ne0 h0 hy) (by rw [pk_div hx h0 hy]; exact A)
theorem a_iremN {x y : Nat} (hC : mvC k pc = (.irem, l, im, a, b, w)) (hn : pc + 1 = n) (hx : x < 2 ^ 31) (h0 : 0 < y) (hy : y < 2 ^ 31) (A : avA d k n L (.int (nI (x % y)) :: st) σ r) : avA d k pc L (.int (nI y) :: .int (nI x) :: st) σ r := a_irem hC hn (nI_ne0 h0 hy) (by rw [pk_rem hx h0 hy]; exact A)
theorem a_i2lN {x : Nat} (hC : mvC k pc = (.i2l, l, im, a, b, w)) (hn : pc + 1 = n) (hx : x < 2 ^ 31) (A : avA d k n L (.long (lN x) :: st) σ r) : avA d k pc L (.int (nI x) :: st) σ r := a_i2l hC hn (by rw [nI_l hx]; exact A)
theorem a_l2iN {x : Nat} (hC : mvC k pc = (.l2i, l, im, a, b, w)) (hn : pc + 1 = n) (A : avA d k n L (.int (nI x) :: st) σ r) : avA d k pc L (.long (lN x) :: st) σ r := a_l2i hC hn (by rw [lN_i]; exact A)
theorem a_laddN {x y : Nat} (hC : mvC k pc = (.ladd, l, im, a, b, w)) (hn : pc + 1 = n) (A : avA d k n L (.long (lN (x + y)) :: st) σ r) : avA d k pc L (.long (lN y) :: .long (lN x) :: st) σ r := a_ladd hC hn (by rw [lN_add]; exact A)
theorem a_lmulN {x y : Nat} (hC : mvC k pc = (.lmul, l, im, a, b, w)) (hn : pc + 1 = n) (A : avA d k n L (.long (lN (x * y)) :: st) σ r) : avA d k pc L (.long (lN y) :: .long (lN x) :: st) σ r := a_lmul hC hn (by rw [lN_mul]; exact A)
theorem nI_negI {x : Nat} (hx : x < 2 ^ 31) : nI x < 0 ↔ False := ⟨fun e => nI_pos hx e, False.elim⟩
theorem nI_eq0 {x : Nat} (hx : x < 2 ^ 31) : nI x = 0 ↔ x = 0 := nI_eq (b := 0) hx (by decide)
theorem nI_gt0 {x : Nat} (hx : x < 2 ^ 31) : 0 < nI x ↔ 0 < x := nI_ltI (a := 0) (by decide) hx
theorem nI_le0 {x : Nat} (hx : x < 2 ^ 31) : nI x ≤ 0 ↔ x = 0 := (nI_leI (b := 0) hx (by decide)).trans (by omega)
theorem a_cmpN_eq {x y : Nat} {off : Int} {t : Nat} (hC : mvC k pc = (.if_icmp .eq off, l, im, a, b, w)) (ht : (pc : Int) + off = (t : Int)) (hn : pc + 3 = n) (hx : x < 2 ^ 31) (hy : y < 2 ^ 31) (T : x = y → avA d k t L st σ r) (F : x ≠ y → avA d k n L st σ r) : avA d k pc L (.int (nI y) :: .int (nI x) :: st) σ r := a_cmp_eq hC ht hn (fun c => T ((nI_eq hx hy).mp c)) (fun c => F (fun e => c ((nI_eq hx hy).mpr e)))
theorem a_cmpN_ne {x y : Nat} {off : Int} {t : Nat} (hC : mvC k pc = (.if_icmp .ne off, l, im, a, b, w)) (ht : (pc : Int) + off = (t : Int)) (hn : pc + 3 = n) (hx : x < 2 ^ 31) (hy : y < 2 ^ 31) (T : x ≠ y → avA d k t L st σ r) (F : x = y → avA d k n L st σ r) : avA d k pc L (.int (nI y) :: .int (nI x) :: st) σ r := a_cmp_ne hC ht hn (fun c => T (fun e => c ((nI_eq hx hy).mpr e))) (fun c => F ((nI_eq hx hy).mp c))
theorem a_cmpN_lt {x y : Nat} {off : Int} {t : Nat} (hC : mvC k pc = (.if_icmp .lt off, l, im, a, b, w)) (ht : (pc : Int) + off = (t : Int)) (hn : pc + 3 = n) (hx : x < 2 ^ 31) (hy : y < 2 ^ 31) (T : x < y → avA d k t L st σ r) (F : y ≤ x → avA d k n L st σ r) : avA d k pc L (.int (nI y) :: .int (nI x) :: st) σ r := a_cmp_lt hC ht hn (fun c => T ((nI_ltI hx hy).mp c)) (fun c => F (Nat.le_of_not_lt fun e => c ((nI_ltI hx hy).mpr e)))
theorem a_cmpN_ge {x y : Nat} {off : Int} {t : Nat} (hC : mvC k pc = (.if_icmp .ge off, l, im, a, b, w)) (ht : (pc : Int) + off = (t : Int)) (hn : pc + 3 = n) (hx : x < 2 ^ 31) (hy : y < 2 ^ 31) (T : y ≤ x → avA d k t L st σ r) (F : x < y → avA d k n L st σ r) : avA d k pc L (.int (nI y) :: .int (nI x) :: st) σ r := a_cmp_ge hC ht hn (fun c => T ((nI_leI hy hx).mp c)) (fun c => F (Nat.lt_of_not_le fun e => c ((nI_leI hy hx).mpr e)))
theorem a_cmpN_gt {x y : Nat} {off : Int} {t : Nat} (hC : mvC k pc = (.if_icmp .gt off, l, im, a, b, w)) (ht : (pc : Int) + off = (t : Int)) (hn : pc + 3 = n) (hx : x < 2 ^ 31) (hy : y < 2 ^ 31) (T : y < x → avA d k t L st σ r) (F : x ≤ y → avA d k n L st σ r) : avA d k pc L (.int (nI y) :: .int (nI x) :: st) σ r := a_cmp_gt hC ht hn (fun c => T ((nI_ltI hy hx).mp c)) (fun c => F (Nat.le_of_not_lt fun e => c ((nI_ltI hy hx).mpr e)))
theorem a_cmpN_le {x y : Nat} {off : Int} {t : Nat} (hC : mvC k pc = (.if_icmp .le off, l, im, a, b, w)) (ht : (pc : Int) + off = (t : Int)) (hn : pc + 3 = n) (hx : x < 2 ^ 31) (hy : y < 2 ^ 31) (T : x ≤ y → avA d k t L st σ r) (F : y < x → avA d k n L st σ r) : avA d k pc L (.int (nI y) :: .int (nI x) :: st) σ r := a_cmp_le hC ht hn (fun c => T ((nI_leI hx hy).mp c)) (fun c => F (Nat.lt_of_not_le fun e => c ((nI_leI hx hy).mpr e)))
theorem a_ifN_eq {x : Nat} {off : Int} {t : Nat} (hC : mvC k pc = (.ifCond .eq off, l, im, a, b, w)) (ht : (pc : Int) + off = (t : Int)) (hn : pc + 3 = n) (hx : x < 2 ^ 31) (T : x = 0 → avA d k t L st σ r) (F : x ≠ 0 → avA d k n L st σ r) : avA d k pc L (.int (nI x) :: st) σ r := a_if_eq hC ht hn (fun c => T ((nI_eq0 hx).mp c)) (fun c => F (fun e => c ((nI_eq0 hx).mpr e)))
theorem a_ifN_ne {x : Nat} {off : Int} {t : Nat} (hC : mvC k pc = (.ifCond .ne off, l, im, a, b, w)) (ht : (pc : Int) + off = (t : Int)) (hn : pc + 3 = n) (hx : x < 2 ^ 31) (T : x ≠ 0 → avA d k t L st σ r) (F : x = 0 → avA d k n L st σ r) : avA d k pc L (.int (nI x) :: st) σ r := a_if_ne hC ht hn (fun c => T (fun e => c ((nI_eq0 hx).mpr e))) (fun c => F ((nI_eq0 hx).mp c))
theorem a_ifN_lt {x : Nat} {off : Int} {t : Nat} (hC : mvC k pc = (.ifCond .lt off, l, im, a, b, w)) (ht : (pc : Int) + off = (t : Int)) (hn : pc + 3 = n) (hx : x < 2 ^ 31) (T : False → avA d k t L st σ r) (F : True → avA d k n L st σ r) : avA d k pc L (.int (nI x) :: st) σ r := a_if_lt hC ht hn (fun c => T ((nI_negI hx).mp c)) (fun _ => F trivial)
theorem a_ifN_ge {x : Nat} {off : Int} {t : Nat} (hC : mvC k pc = (.ifCond .ge off, l, im, a, b, w)) (ht : (pc : Int) + off = (t : Int)) (hn : pc + 3 = n) (hx : x < 2 ^ 31) (T : True → avA d k t L st σ r) (F : False → avA d k n L st σ r) : avA d k pc L (.int (nI x) :: st) σ r := a_if_ge hC ht hn (fun _ => T trivial) (fun c => F (c (nI_pos' hx)))
theorem a_ifN_gt {x : Nat} {off : Int} {t : Nat} (hC : mvC k pc = (.ifCond .gt off, l, im, a, b, w)) (ht : (pc : Int) + off = (t : Int)) (hn : pc + 3 = n) (hx : x < 2 ^ 31) (T : 0 < x → avA d k t L st σ r) (F : x = 0 → avA d k n L st σ r) : avA d k pc L (.int (nI x) :: st) σ r := a_if_gt hC ht hn (fun c => T ((nI_gt0 hx).mp c)) (fun c => F (by have q : ¬ 0 < x := fun e => c ((nI_gt0 hx).mpr e); omega))
theorem a_ifN_le {x : Nat} {off : Int} {t : Nat} (hC : mvC k pc = (.ifCond .le off, l, im, a, b, w)) (ht : (pc : Int) + off = (t : Int)) (hn : pc + 3 = n) (hx : x < 2 ^ 31) (T : x = 0 → avA d k t L st σ r) (F : 0 < x → avA d k n L st σ r) : avA d k pc L (.int (nI x) :: st) σ r := a_if_le hC ht hn (fun c => T ((nI_le0 hx).mp c)) (fun c => F (by have q : ¬ x = 0 := fun e => c ((nI_le0 hx).mpr e); omega))
theorem a_ifb_eq {p : Prop} [Decidable p] {off : Int} {t : Nat} (hC : mvC k pc = (.ifCond .eq off, l, im, a, b, w)) (ht : (pc : Int) + off = (t : Int)) (hn : pc + 3 = n) (T : ¬ p → avA d k t L st σ r) (F : p → avA d k n L st σ r) : avA d k pc L (.int (bI p) :: st) σ r := a_if_eq hC ht hn (fun c => T (bI_0.mp c)) (fun c => F (Decidable.byContradiction fun e => c (bI_0.mpr e)))
theorem a_ifb_ne {p : Prop} [Decidable p] {off : Int} {t : Nat} (hC : mvC k pc = (.ifCond .ne off, l, im, a, b, w)) (ht : (pc : Int) + off = (t : Int)) (hn : pc + 3 = n) (T : p → avA d k t L st σ r) (F : ¬ p → avA d k n L st σ r) : avA d k pc L (.int (bI p) :: st) σ r := a_if_ne hC ht hn (fun c => T (Decidable.byContradiction fun e => c (bI_0.mpr e))) (fun c => F (bI_0.mp c))
theorem a_cmpI_lt {x y : Int32} {X Y : Int} {off : Int} {t : Nat} (hC : mvC k pc = (.if_icmp .lt off, l, im, a, b, w)) (ht : (pc : Int) + off = (t : Int)) (hn : pc + 3 = n) (hx : x.toInt = X) (hy : y.toInt = Y) (T : X < Y → avA d k t L st σ r) (F : ¬ X < Y → avA d k n L st σ r) : avA d k pc L (.int y :: .int x :: st) σ r := by
  subst hx hy
  exact a_cmp_lt hC ht hn (fun c => T (Int32.lt_iff_toInt_lt.mp c)) (fun c => F (fun e => c (Int32.lt_iff_toInt_lt.mpr e)))
theorem a_cmpI_ge {x y : Int32} {X Y : Int} {off : Int} {t : Nat} (hC : mvC k pc = (.if_icmp .ge off, l, im, a, b, w)) (ht : (pc : Int) + off = (t : Int)) (hn : pc + 3 = n) (hx : x.toInt = X) (hy : y.toInt = Y) (T : Y ≤ X → avA d k t L st σ r) (F : ¬ Y ≤ X → avA d k n L st σ r) : avA d k pc L (.int y :: .int x :: st) σ r := by
  subst hx hy
  exact a_cmp_ge hC ht hn (fun c => T (Int32.le_iff_toInt_le.mp c)) (fun c => F (fun e => c (Int32.le_iff_toInt_le.mpr e)))
theorem a_cmpI_gt {x y : Int32} {X Y : Int} {off : Int} {t : Nat} (hC : mvC k pc = (.if_icmp .gt off, l, im, a, b, w)) (ht : (pc : Int) + off = (t : Int)) (hn : pc + 3 = n) (hx : x.toInt = X) (hy : y.toInt = Y) (T : Y < X → avA d k t L st σ r) (F : ¬ Y < X → avA d k n L st σ r) : avA d k pc L (.int y :: .int x :: st) σ r := by
  subst hx hy
  exact a_cmp_gt hC ht hn (fun c => T (Int32.lt_iff_toInt_lt.mp c)) (fun c => F (fun e => c (Int32.lt_iff_toInt_lt.mpr e)))
theorem a_cmpI_le {x y : Int32} {X Y : Int} {off : Int} {t : Nat} (hC : mvC k pc = (.if_icmp .le off, l, im, a, b, w)) (ht : (pc : Int) + off = (t : Int)) (hn : pc + 3 = n) (hx : x.toInt = X) (hy : y.toInt = Y) (T : X ≤ Y → avA d k t L st σ r) (F : ¬ X ≤ Y → avA d k n L st σ r) : avA d k pc L (.int y :: .int x :: st) σ r := by
  subst hx hy
  exact a_cmp_le hC ht hn (fun c => T (Int32.le_iff_toInt_le.mp c)) (fun c => F (fun e => c (Int32.le_iff_toInt_le.mpr e)))
theorem a_ifI_lt {x : Int32} {X : Int} {off : Int} {t : Nat} (hC : mvC k pc = (.ifCond .lt off, l, im, a, b, w)) (ht : (pc : Int) + off = (t : Int)) (hn : pc + 3 = n) (hx : x.toInt = X) (T : X < 0 → avA d k t L st σ r) (F : ¬ X < 0 → avA d k n L st σ r) : avA d k pc L (.int x :: st) σ r := by
  subst hx
  exact a_if_lt hC ht hn (fun c => T (Int32.lt_iff_toInt_lt.mp c)) (fun c => F (fun e => c (Int32.lt_iff_toInt_lt.mpr e)))
theorem a_ifI_ge {x : Int32} {X : Int} {off : Int} {t : Nat} (hC : mvC k pc = (.ifCond .ge off, l, im, a, b, w)) (ht : (pc : Int) + off = (t : Int)) (hn : pc + 3 = n) (hx : x.toInt = X) (T : 0 ≤ X → avA d k t L st σ r) (F : ¬ 0 ≤ X → avA d k n L st σ r) : avA d k pc L (.int x :: st) σ r := by
  subst hx
  exact a_if_ge hC ht hn (fun c => T (Int32.le_iff_toInt_le.mp c)) (fun c => F (fun e => c (Int32.le_iff_toInt_le.mpr e)))
theorem a_ifI_gt {x : Int32} {X : Int} {off : Int} {t : Nat} (hC : mvC k pc = (.ifCond .gt off, l, im, a, b, w)) (ht : (pc : Int) + off = (t : Int)) (hn : pc + 3 = n) (hx : x.toInt = X) (T : 0 < X → avA d k t L st σ r) (F : ¬ 0 < X → avA d k n L st σ r) : avA d k pc L (.int x :: st) σ r := by
  subst hx
  exact a_if_gt hC ht hn (fun c => T (Int32.lt_iff_toInt_lt.mp c)) (fun c => F (fun e => c (Int32.lt_iff_toInt_lt.mpr e)))
theorem a_ifI_le {x : Int32} {X : Int} {off : Int} {t : Nat} (hC : mvC k pc = (.ifCond .le off, l, im, a, b, w)) (ht : (pc : Int) + off = (t : Int)) (hn : pc + 3 = n) (hx : x.toInt = X) (T : X ≤ 0 → avA d k t L st σ r) (F : ¬ X ≤ 0 → avA d k n L st σ r) : avA d k pc L (.int x :: st) σ r := by
  subst hx
  exact a_if_le hC ht hn (fun c => T (Int32.le_iff_toInt_le.mp c)) (fun c => F (fun e => c (Int32.le_iff_toInt_le.mpr e)))
theorem a_cmpI_eq {x y : Int32} {X Y : Int} {off : Int} {t : Nat} (hC : mvC k pc = (.if_icmp .eq off, l, im, a, b, w)) (ht : (pc : Int) + off = (t : Int)) (hn : pc + 3 = n) (hx : x.toInt = X) (hy : y.toInt = Y) (T : X = Y → avA d k t L st σ r) (F : ¬ X = Y → avA d k n L st σ r) : avA d k pc L (.int y :: .int x :: st) σ r := by
  subst hx hy
  exact a_cmp_eq hC ht hn (fun c => T (Int32.toInt_inj.mpr c)) (fun c => F (fun e => c (Int32.toInt_inj.mp e)))
theorem a_cmpI_ne {x y : Int32} {X Y : Int} {off : Int} {t : Nat} (hC : mvC k pc = (.if_icmp .ne off, l, im, a, b, w)) (ht : (pc : Int) + off = (t : Int)) (hn : pc + 3 = n) (hx : x.toInt = X) (hy : y.toInt = Y) (T : ¬ X = Y → avA d k t L st σ r) (F : X = Y → avA d k n L st σ r) : avA d k pc L (.int y :: .int x :: st) σ r := by
  subst hx hy
  exact a_cmp_ne hC ht hn (fun c => T (fun e => c (Int32.toInt_inj.mp e))) (fun c => F (Int32.toInt_inj.mpr c))
theorem a_putrS {i o c f : Nat} {v : Nat} (hC : mvC k pc = (.putfield i, l, im, c, f, w)) (hn : pc + 3 = n) (ho : (me.2.2 o).1 = c) (hf : mvFk c f = 2) (A : avA d k n L st (me, h, gl, mvPut gr o f (some v)) r) : avA d k pc L (.ref v :: .ref o :: st) (me, h, gl, gr) r := a_putr (v := some v) hC hn ho hf A
theorem a_aretS {v : Nat} {nm : String} (hC : mvC k pc = (.areturn, l, im, a, b, w)) (hr : (mvT k).2.2.2.1 = some (.object nm)) : avA d k pc L [.ref v] σ (some (.ref v), σ) := a_aret (v := some v) hC hr
theorem a_aretN {nm : String} (hC : mvC k pc = (.areturn, l, im, a, b, w)) (hr : (mvT k).2.2.2.1 = some (.object nm)) : avA d k pc L [.null] σ (some .null, σ) := a_aret (v := none) hC hr
theorem a_statI {c i y ml na : Nat} {x : Int32} {As rest : List Value} {σ' : mvSt} (hC : mvC k pc = (.invokestatic i, l, im, y, 0, w)) (hn : pc + 3 = n) (C : avE c y As σ (some (.int x), σ')) (hc : c ≤ d) (hy : (mvT y).2.2.1 = ml ∧ (mvT y).2.2.2.2.1 = 0 ∧ (mvT y).2.2.2.2.2.1 = na) (h0 : Nat.blt 0 y = true) (hA : As.length = na) (hl : (mvLs ml As).length = ml) (hs : (rest.map fun v => v.category).sum ≤ 8) (hst : As.reverse ++ rest = st) (A : avA (d + 1) k n L (.int x :: rest) σ' r) : avA (d + 1) k pc L st σ r := a_stat hC hn (av_up C hc) hy h0 hA hl hs hst A
theorem a_statL {c i y ml na : Nat} {x : Int64} {As rest : List Value} {σ' : mvSt} (hC : mvC k pc = (.invokestatic i, l, im, y, 0, w)) (hn : pc + 3 = n) (C : avE c y As σ (some (.long x), σ')) (hc : c ≤ d) (hy : (mvT y).2.2.1 = ml ∧ (mvT y).2.2.2.2.1 = 0 ∧ (mvT y).2.2.2.2.2.1 = na) (h0 : Nat.blt 0 y = true) (hA : As.length = na) (hl : (mvLs ml As).length = ml) (hs : (rest.map fun v => v.category).sum ≤ 8) (hst : As.reverse ++ rest = st) (A : avA (d + 1) k n L (.long x :: rest) σ' r) : avA (d + 1) k pc L st σ r := a_stat hC hn (av_up C hc) hy h0 hA hl hs hst A
theorem a_statR {c i y ml na : Nat} {x : Nat} {As rest : List Value} {σ' : mvSt} (hC : mvC k pc = (.invokestatic i, l, im, y, 0, w)) (hn : pc + 3 = n) (C : avE c y As σ (some (.ref x), σ')) (hc : c ≤ d) (hy : (mvT y).2.2.1 = ml ∧ (mvT y).2.2.2.2.1 = 0 ∧ (mvT y).2.2.2.2.2.1 = na) (h0 : Nat.blt 0 y = true) (hA : As.length = na) (hl : (mvLs ml As).length = ml) (hs : (rest.map fun v => v.category).sum ≤ 8) (hst : As.reverse ++ rest = st) (A : avA (d + 1) k n L (.ref x :: rest) σ' r) : avA (d + 1) k pc L st σ r := a_stat hC hn (av_up C hc) hy h0 hA hl hs hst A
theorem a_statN {c i y ml na : Nat}  {As rest : List Value} {σ' : mvSt} (hC : mvC k pc = (.invokestatic i, l, im, y, 0, w)) (hn : pc + 3 = n) (C : avE c y As σ (some .null, σ')) (hc : c ≤ d) (hy : (mvT y).2.2.1 = ml ∧ (mvT y).2.2.2.2.1 = 0 ∧ (mvT y).2.2.2.2.2.1 = na) (h0 : Nat.blt 0 y = true) (hA : As.length = na) (hl : (mvLs ml As).length = ml) (hs : (rest.map fun v => v.category).sum ≤ 8) (hst : As.reverse ++ rest = st) (A : avA (d + 1) k n L (.null :: rest) σ' r) : avA (d + 1) k pc L st σ r := a_stat hC hn (av_up C hc) hy h0 hA hl hs hst A
theorem a_statV {c i y ml na : Nat} {x : Option Nat} {As rest : List Value} {σ' : mvSt} (hC : mvC k pc = (.invokestatic i, l, im, y, 0, w)) (hn : pc + 3 = n) (C : avE c y As σ (some (mvRv x), σ')) (hc : c ≤ d) (hy : (mvT y).2.2.1 = ml ∧ (mvT y).2.2.2.2.1 = 0 ∧ (mvT y).2.2.2.2.2.1 = na) (h0 : Nat.blt 0 y = true) (hA : As.length = na) (hl : (mvLs ml As).length = ml) (hs : (rest.map fun v => v.category).sum ≤ 8) (hst : As.reverse ++ rest = st) (A : avA (d + 1) k n L (mvRv x :: rest) σ' r) : avA (d + 1) k pc L st σ r := a_stat hC hn (av_up C hc) hy h0 hA hl hs hst A
theorem a_stat0 {c i y ml na : Nat}  {As rest : List Value} {σ' : mvSt} (hC : mvC k pc = (.invokestatic i, l, im, y, 0, w)) (hn : pc + 3 = n) (C : avE c y As σ (none, σ')) (hc : c ≤ d) (hy : (mvT y).2.2.1 = ml ∧ (mvT y).2.2.2.2.1 = 0 ∧ (mvT y).2.2.2.2.2.1 = na) (h0 : Nat.blt 0 y = true) (hA : As.length = na) (hl : (mvLs ml As).length = ml) (hs : (rest.map fun v => v.category).sum ≤ 8) (hst : As.reverse ++ rest = st) (A : avA (d + 1) k n L (rest) σ' r) : avA (d + 1) k pc L st σ r := a_stat hC hn (av_up C hc) hy h0 hA hl hs hst A
theorem a_virtI {c i y ml na ci kd o : Nat} {x : Int32} {As rest : List Value} {σ' : mvSt} (hC : mvC k pc = (.invokevirtual i, l, im, y, 0, w)) (hn : pc + 3 = n) (C : avE c y (.ref o :: As) σ (some (.int x), σ')) (hc : c ≤ d) (hy : (mvT y).2.2.1 = ml ∧ (mvT y).2.2.2.2.1 = kd + 1 ∧ (mvT y).2.2.2.2.2.1 = na ∧ (mvT y).2.2.2.2.2.2.1 = ci) (h0 : Nat.blt 0 y = true) (hA : As.length = na) (hl : (mvLs ml (.ref o :: As)).length = ml) (hs : (rest.map fun v => v.category).sum ≤ 8) (ho : (σ.1.2.2 o).1 = ci) (hst : As.reverse ++ .ref o :: rest = st) (A : avA (d + 1) k n L (.int x :: rest) σ' r) : avA (d + 1) k pc L st σ r := a_virt hC hn (av_up C hc) hy h0 hA hl hs ho hst A
theorem a_virtL {c i y ml na ci kd o : Nat} {x : Int64} {As rest : List Value} {σ' : mvSt} (hC : mvC k pc = (.invokevirtual i, l, im, y, 0, w)) (hn : pc + 3 = n) (C : avE c y (.ref o :: As) σ (some (.long x), σ')) (hc : c ≤ d) (hy : (mvT y).2.2.1 = ml ∧ (mvT y).2.2.2.2.1 = kd + 1 ∧ (mvT y).2.2.2.2.2.1 = na ∧ (mvT y).2.2.2.2.2.2.1 = ci) (h0 : Nat.blt 0 y = true) (hA : As.length = na) (hl : (mvLs ml (.ref o :: As)).length = ml) (hs : (rest.map fun v => v.category).sum ≤ 8) (ho : (σ.1.2.2 o).1 = ci) (hst : As.reverse ++ .ref o :: rest = st) (A : avA (d + 1) k n L (.long x :: rest) σ' r) : avA (d + 1) k pc L st σ r := a_virt hC hn (av_up C hc) hy h0 hA hl hs ho hst A
theorem a_virtR {c i y ml na ci kd o : Nat} {x : Nat} {As rest : List Value} {σ' : mvSt} (hC : mvC k pc = (.invokevirtual i, l, im, y, 0, w)) (hn : pc + 3 = n) (C : avE c y (.ref o :: As) σ (some (.ref x), σ')) (hc : c ≤ d) (hy : (mvT y).2.2.1 = ml ∧ (mvT y).2.2.2.2.1 = kd + 1 ∧ (mvT y).2.2.2.2.2.1 = na ∧ (mvT y).2.2.2.2.2.2.1 = ci) (h0 : Nat.blt 0 y = true) (hA : As.length = na) (hl : (mvLs ml (.ref o :: As)).length = ml) (hs : (rest.map fun v => v.category).sum ≤ 8) (ho : (σ.1.2.2 o).1 = ci) (hst : As.reverse ++ .ref o :: rest = st) (A : avA (d + 1) k n L (.ref x :: rest) σ' r) : avA (d + 1) k pc L st σ r := a_virt hC hn (av_up C hc) hy h0 hA hl hs ho hst A
theorem a_virtN {c i y ml na ci kd o : Nat}  {As rest : List Value} {σ' : mvSt} (hC : mvC k pc = (.invokevirtual i, l, im, y, 0, w)) (hn : pc + 3 = n) (C : avE c y (.ref o :: As) σ (some .null, σ')) (hc : c ≤ d) (hy : (mvT y).2.2.1 = ml ∧ (mvT y).2.2.2.2.1 = kd + 1 ∧ (mvT y).2.2.2.2.2.1 = na ∧ (mvT y).2.2.2.2.2.2.1 = ci) (h0 : Nat.blt 0 y = true) (hA : As.length = na) (hl : (mvLs ml (.ref o :: As)).length = ml) (hs : (rest.map fun v => v.category).sum ≤ 8) (ho : (σ.1.2.2 o).1 = ci) (hst : As.reverse ++ .ref o :: rest = st) (A : avA (d + 1) k n L (.null :: rest) σ' r) : avA (d + 1) k pc L st σ r := a_virt hC hn (av_up C hc) hy h0 hA hl hs ho hst A
theorem a_virtV {c i y ml na ci kd o : Nat} {x : Option Nat} {As rest : List Value} {σ' : mvSt} (hC : mvC k pc = (.invokevirtual i, l, im, y, 0, w)) (hn : pc + 3 = n) (C : avE c y (.ref o :: As) σ (some (mvRv x), σ')) (hc : c ≤ d) (hy : (mvT y).2.2.1 = ml ∧ (mvT y).2.2.2.2.1 = kd + 1 ∧ (mvT y).2.2.2.2.2.1 = na ∧ (mvT y).2.2.2.2.2.2.1 = ci) (h0 : Nat.blt 0 y = true) (hA : As.length = na) (hl : (mvLs ml (.ref o :: As)).length = ml) (hs : (rest.map fun v => v.category).sum ≤ 8) (ho : (σ.1.2.2 o).1 = ci) (hst : As.reverse ++ .ref o :: rest = st) (A : avA (d + 1) k n L (mvRv x :: rest) σ' r) : avA (d + 1) k pc L st σ r := a_virt hC hn (av_up C hc) hy h0 hA hl hs ho hst A
theorem a_virt0 {c i y ml na ci kd o : Nat}  {As rest : List Value} {σ' : mvSt} (hC : mvC k pc = (.invokevirtual i, l, im, y, 0, w)) (hn : pc + 3 = n) (C : avE c y (.ref o :: As) σ (none, σ')) (hc : c ≤ d) (hy : (mvT y).2.2.1 = ml ∧ (mvT y).2.2.2.2.1 = kd + 1 ∧ (mvT y).2.2.2.2.2.1 = na ∧ (mvT y).2.2.2.2.2.2.1 = ci) (h0 : Nat.blt 0 y = true) (hA : As.length = na) (hl : (mvLs ml (.ref o :: As)).length = ml) (hs : (rest.map fun v => v.category).sum ≤ 8) (ho : (σ.1.2.2 o).1 = ci) (hst : As.reverse ++ .ref o :: rest = st) (A : avA (d + 1) k n L (rest) σ' r) : avA (d + 1) k pc L st σ r := a_virt hC hn (av_up C hc) hy h0 hA hl hs ho hst A
theorem a_specI {c i y ml na ci kd o : Nat} {x : Int32} {As rest : List Value} {σ' : mvSt} (hC : mvC k pc = (.invokespecial i, l, im, y, 0, w)) (hn : pc + 3 = n) (C : avE c y (.ref o :: As) σ (some (.int x), σ')) (hc : c ≤ d) (hy : (mvT y).2.2.1 = ml ∧ (mvT y).2.2.2.2.1 = kd + 1 ∧ (mvT y).2.2.2.2.2.1 = na ∧ (mvT y).2.2.2.2.2.2.1 = ci) (h0 : Nat.blt 0 y = true) (hA : As.length = na) (hl : (mvLs ml (.ref o :: As)).length = ml) (hs : (rest.map fun v => v.category).sum ≤ 8) (ho : (σ.1.2.2 o).1 = ci) (hst : As.reverse ++ .ref o :: rest = st) (A : avA (d + 1) k n L (.int x :: rest) σ' r) : avA (d + 1) k pc L st σ r := a_spec hC hn (av_up C hc) hy h0 hA hl hs ho hst A
theorem a_specL {c i y ml na ci kd o : Nat} {x : Int64} {As rest : List Value} {σ' : mvSt} (hC : mvC k pc = (.invokespecial i, l, im, y, 0, w)) (hn : pc + 3 = n) (C : avE c y (.ref o :: As) σ (some (.long x), σ')) (hc : c ≤ d) (hy : (mvT y).2.2.1 = ml ∧ (mvT y).2.2.2.2.1 = kd + 1 ∧ (mvT y).2.2.2.2.2.1 = na ∧ (mvT y).2.2.2.2.2.2.1 = ci) (h0 : Nat.blt 0 y = true) (hA : As.length = na) (hl : (mvLs ml (.ref o :: As)).length = ml) (hs : (rest.map fun v => v.category).sum ≤ 8) (ho : (σ.1.2.2 o).1 = ci) (hst : As.reverse ++ .ref o :: rest = st) (A : avA (d + 1) k n L (.long x :: rest) σ' r) : avA (d + 1) k pc L st σ r := a_spec hC hn (av_up C hc) hy h0 hA hl hs ho hst A
theorem a_specR {c i y ml na ci kd o : Nat} {x : Nat} {As rest : List Value} {σ' : mvSt} (hC : mvC k pc = (.invokespecial i, l, im, y, 0, w)) (hn : pc + 3 = n) (C : avE c y (.ref o :: As) σ (some (.ref x), σ')) (hc : c ≤ d) (hy : (mvT y).2.2.1 = ml ∧ (mvT y).2.2.2.2.1 = kd + 1 ∧ (mvT y).2.2.2.2.2.1 = na ∧ (mvT y).2.2.2.2.2.2.1 = ci) (h0 : Nat.blt 0 y = true) (hA : As.length = na) (hl : (mvLs ml (.ref o :: As)).length = ml) (hs : (rest.map fun v => v.category).sum ≤ 8) (ho : (σ.1.2.2 o).1 = ci) (hst : As.reverse ++ .ref o :: rest = st) (A : avA (d + 1) k n L (.ref x :: rest) σ' r) : avA (d + 1) k pc L st σ r := a_spec hC hn (av_up C hc) hy h0 hA hl hs ho hst A
theorem a_specN {c i y ml na ci kd o : Nat}  {As rest : List Value} {σ' : mvSt} (hC : mvC k pc = (.invokespecial i, l, im, y, 0, w)) (hn : pc + 3 = n) (C : avE c y (.ref o :: As) σ (some .null, σ')) (hc : c ≤ d) (hy : (mvT y).2.2.1 = ml ∧ (mvT y).2.2.2.2.1 = kd + 1 ∧ (mvT y).2.2.2.2.2.1 = na ∧ (mvT y).2.2.2.2.2.2.1 = ci) (h0 : Nat.blt 0 y = true) (hA : As.length = na) (hl : (mvLs ml (.ref o :: As)).length = ml) (hs : (rest.map fun v => v.category).sum ≤ 8) (ho : (σ.1.2.2 o).1 = ci) (hst : As.reverse ++ .ref o :: rest = st) (A : avA (d + 1) k n L (.null :: rest) σ' r) : avA (d + 1) k pc L st σ r := a_spec hC hn (av_up C hc) hy h0 hA hl hs ho hst A
theorem a_specV {c i y ml na ci kd o : Nat} {x : Option Nat} {As rest : List Value} {σ' : mvSt} (hC : mvC k pc = (.invokespecial i, l, im, y, 0, w)) (hn : pc + 3 = n) (C : avE c y (.ref o :: As) σ (some (mvRv x), σ')) (hc : c ≤ d) (hy : (mvT y).2.2.1 = ml ∧ (mvT y).2.2.2.2.1 = kd + 1 ∧ (mvT y).2.2.2.2.2.1 = na ∧ (mvT y).2.2.2.2.2.2.1 = ci) (h0 : Nat.blt 0 y = true) (hA : As.length = na) (hl : (mvLs ml (.ref o :: As)).length = ml) (hs : (rest.map fun v => v.category).sum ≤ 8) (ho : (σ.1.2.2 o).1 = ci) (hst : As.reverse ++ .ref o :: rest = st) (A : avA (d + 1) k n L (mvRv x :: rest) σ' r) : avA (d + 1) k pc L st σ r := a_spec hC hn (av_up C hc) hy h0 hA hl hs ho hst A
theorem a_spec0 {c i y ml na ci kd o : Nat}  {As rest : List Value} {σ' : mvSt} (hC : mvC k pc = (.invokespecial i, l, im, y, 0, w)) (hn : pc + 3 = n) (C : avE c y (.ref o :: As) σ (none, σ')) (hc : c ≤ d) (hy : (mvT y).2.2.1 = ml ∧ (mvT y).2.2.2.2.1 = kd + 1 ∧ (mvT y).2.2.2.2.2.1 = na ∧ (mvT y).2.2.2.2.2.2.1 = ci) (h0 : Nat.blt 0 y = true) (hA : As.length = na) (hl : (mvLs ml (.ref o :: As)).length = ml) (hs : (rest.map fun v => v.category).sum ≤ 8) (ho : (σ.1.2.2 o).1 = ci) (hst : As.reverse ++ .ref o :: rest = st) (A : avA (d + 1) k n L (rest) σ' r) : avA (d + 1) k pc L st σ r := a_spec hC hn (av_up C hc) hy h0 hA hl hs ho hst A
end AW
