/-! THE LEASE: the reference's 4096 sets; both -/
abbrev tB (v : Nat) : Nat → Bool := fun i => v.testBit i
theorem lc_64 : ∀ a, a < 64 → ∀ b, b < 64 → pcF 31 (64 * a + b) = lC (tB (64 * a + b)) 12 := by decide +kernel
theorem lc_bits (v : Nat) (hv : v < 4096) : pcF 31 v = lC (tB v) 12 := by
  have := lc_64 (v / 64) (by omega) (v % 64) (by omega)
  rwa [show 64 * (v / 64) + v % 64 = v by omega] at this
theorem t_has (v i : Nat) (hi : i < 32) : tb (nI v) i = tB v i := by rw [tb_nI, decide_eq_true hi, Bool.true_and]
def fb (u : Nat) : Nat → Nat
  | 0 => 0
  | j + 1 => if u.testBit (11 - j) = true then 11 - j else fb u j
theorem low_64 : ∀ a, a < 64 → ∀ b, b < 64 → nI (64 * a + b) &&& -(nI (64 * a + b)) = if 64 * a + b = 0 then nI 0 else nI (2 ^ fb (64 * a + b) 12) := by decide +kernel
theorem l_low (u : Nat) (hu : u < 4096) : nI u &&& -(nI u) = if u = 0 then nI 0 else nI (2 ^ fb u 12) := by
  have := low_64 (u / 64) (by omega) (u % 64) (by omega)
  rwa [show 64 * (u / 64) + u % 64 = u by omega] at this
theorem fb_lt (u j : Nat) : fb u j < 12 := by
  induction j with
  | zero => show 0 < 12; omega
  | succ j ih => rw [fb]; split <;> omega
theorem lH_fb (v w : Nat) (j : Nat) (hj : j ≤ 12) : (∃ i, 12 - j ≤ i ∧ i < 12 ∧ (v ^^^ w).testBit i = true) → lH (tB v) (tB w) j = v.testBit (fb (v ^^^ w) j) := by
  induction j with
  | zero => rintro ⟨i, h1, h2, _⟩; omega
  | succ j ih =>
    rintro ⟨i, h1, h2, h3⟩
    have e : (v ^^^ w).testBit (11 - j) = (v.testBit (11 - j) ^^ w.testBit (11 - j)) := Nat.testBit_xor ..
    rw [lH, fb]
    by_cases c : tB v (11 - j) = tB w (11 - j)
    · have c' : (v ^^^ w).testBit (11 - j) = false := by rw [e]; simp only [tB] at c; rw [c]; simp
      rw [if_pos c, c', if_neg (by simp)]
      refine ih (by omega) ⟨i, ?_, h2, h3⟩
      by_cases d : i = 11 - j
      · subst d; rw [c'] at h3; exact absurd h3 (by simp)
      · omega
    · have c' : (v ^^^ w).testBit (11 - j) = true := by
        rw [e]
        simp only [tB] at c
        cases x : v.testBit (11 - j) <;> cases y : w.testBit (11 - j) <;> simp_all
      rw [if_neg c, c', if_pos rfl]
theorem lH_self (s : Nat → Bool) (j : Nat) : lH s s j = false := by
  induction j with
  | zero => rfl
  | succ j ih => rw [lH, if_pos rfl, ih]
theorem lH_as {s u : Nat → Bool} (j : Nat) (h : lH s u j = true) : lH u s j = false := by
  induction j with
  | zero => rfl
  | succ j ih =>
    rw [lH] at h ⊢
    by_cases c : s (11 - j) = u (11 - j)
    · rw [if_pos c] at h
      rw [if_pos c.symm]
      exact ih h
    · rw [if_neg c] at h
      rw [if_neg (fun e => c e.symm)]
      cases x : u (11 - j) with
      | false => rfl
      | true => rw [h, x] at c; exact absurd rfl c
theorem nI_xor (a b : Nat) : nI a ^^^ nI b = nI (a ^^^ b) := by
  apply tb_ext
  intro j hj
  rw [tb_xor, tb_nI, tb_nI, tb_nI, Nat.testBit_xor, decide_eq_true hj]
  simp
theorem nz_bit {u : Nat} (hu : u < 4096) (h0 : u ≠ 0) : ∃ i, i < 12 ∧ u.testBit i = true := by
  apply Classical.byContradiction
  intro q
  apply h0
  apply Nat.eq_of_testBit_eq
  intro i
  rw [Nat.zero_testBit]
  by_cases c : i < 12
  · cases e : u.testBit i with
    | false => rfl
    | true => exact absurd ⟨i, c, e⟩ q
  · exact Nat.testBit_lt_two_pow (Nat.lt_of_lt_of_le hu (by show 2 ^ 12 ≤ 2 ^ i; exact Nat.pow_le_pow_right (by omega) (by omega)))
theorem and_2p (v k : Nat) : v &&& 2 ^ k = 0 ↔ ¬ v.testBit k = true := by
  constructor
  · intro e q
    have := congrArg (fun x => x.testBit k) e
    simp [Nat.testBit_and, Nat.testBit_two_pow, q] at this
  · intro q
    apply Nat.eq_of_testBit_eq
    intro i
    rw [Nat.testBit_and, Nat.zero_testBit, Nat.testBit_two_pow]
    by_cases c : k = i
    · subst c; simp at q; simp [q]
    · simp [c]
theorem r_isAhead {σ : mvSt} (v w : Nat) (hv : v < 4096) (hw : w < 4096) : avE 0 317 [.int (nI v), .int (nI w)] σ (some (.int (bI (lH (tB v) (tB w) 12 = true))), σ) := by
  have hu : v ^^^ w < 4096 := Nat.xor_lt_two_pow (n := 12) hv hw
  have e : nI v &&& nI (v ^^^ w) &&& -(nI (v ^^^ w)) = 0 ↔ ¬ lH (tB v) (tB w) 12 = true := by
    rw [Int32.and_assoc, l_low _ hu]
    by_cases c : v ^^^ w = 0
    · have d : v = w := by
        apply Nat.eq_of_testBit_eq
        intro i
        have : (v ^^^ w).testBit i = false := by rw [c]; exact Nat.zero_testBit i
        rw [Nat.testBit_xor] at this
        cases x : v.testBit i <;> cases y : w.testBit i <;> simp_all
      subst d
      rw [if_pos c, lH_self, nI_and, Nat.and_zero]
      simp
      rfl
    · obtain ⟨i, i1, i2⟩ := nz_bit hu c
      rw [if_neg c, lH_fb v w 12 (by omega) ⟨i, by omega, i1, i2⟩, nI_and, nI_eq0 (Nat.lt_of_le_of_lt Nat.and_le_left (by omega)), and_2p]
  show avA _ 317 0 [.int (nI (v)), .int (nI (w)), mvU] [] _ _
  refine a_iload_0 rfl rfl ?_
  refine a_iload_1 rfl rfl ?_
  refine a_ixor rfl rfl ?_
  refine a_as (y := nI (v ^^^ w)) (nI_xor v w) ?_
  refine a_istore_2 rfl rfl rfl ?_
  refine a_iload_0 rfl rfl ?_
  refine a_iload_2 rfl rfl ?_
  refine a_iand rfl rfl ?_
  refine a_iload_2 rfl rfl ?_
  refine a_ineg rfl rfl ?_
  refine a_iand rfl rfl ?_
  refine a_if_eq rfl rfl rfl (fun c_10 => ?_) (fun c_10 => ?_)
  · refine a_iconst (v := (nI 0)) rfl rfl rfl ?_
    refine av_to (a_zret rfl rfl (Or.inl rfl)) (bz0 ?_)
    first | exact e.mp c_10 | exact Decidable.byContradiction (fun q => c_10 (e.mpr q))
  · refine a_iconst (v := (nI 1)) rfl rfl rfl ?_
    refine a_goto rfl rfl ?_
    refine av_to (a_zret rfl rfl (Or.inr rfl)) (bz1 ?_)
    first | exact e.mp c_10 | exact Decidable.byContradiction (fun q => c_10 (e.mpr q))
section LR
variable {L t : Nat} {lt rt rp : Option Nat} {sw : Bool} {gl : Nat → Nat → Int64} {h : Nat → Nat → Int32}
theorem l_apart {σ : mvSt} (v gap : Nat) (hgap : gap ≤ 11) (n : Nat) : ∀ (i : Nat) (la : Int) (nx : Nat), i + n = 12 → ((la = -1 ∧ nx = 0) ∨ (0 ≤ la ∧ la < i ∧ (nx : Int) = la + gap + 1)) → avA 1 315 4 [.int (nI v), .int (nI gap), .int (iI la), .int (nI i)] [] σ (some (.int (bI (lA gap (tB v) (12 - i) nx = true))), σ) := by
  induction n with
  | zero =>
    intro i la nx hi hl
    have e : i = 12 := by omega
    subst e
    refine a_iload_3 rfl rfl ?_
    refine a_bipush (v := (nI 12)) rfl rfl rfl ?_
    refine a_cmpN_ge rfl rfl rfl (by omega) (by omega) (fun _ => ?_) (fun c_7 => absurd c_7 (by decide))
    refine a_iconst (v := (nI 1)) rfl rfl rfl ?_
    refine av_to (a_zret rfl rfl (Or.inr rfl)) (bz1 ?_)
    rfl
  | succ n ih =>
    intro i la nx hi hl
    have H := t_has v i (by omega)
    have s : lA gap (tB v) (12 - i) nx = if tB v i = true then decide (nx ≤ i) && lA gap (tB v) (12 - (i + 1)) (i + gap + 1) else lA gap (tB v) (12 - (i + 1)) nx := by
      rw [show 12 - i = (11 - i) + 1 by omega, lA, show 11 - (11 - i) = i by omega, show 11 - i = 12 - (i + 1) by omega]
    by_cases c : tB v i = true
    · rw [if_pos c] at s
      by_cases d : nx ≤ i
      · have Z := ih (i + 1) i (i + gap + 1) (by omega) (Or.inr (by omega))
        rw [s, decide_eq_true d, Bool.true_and]
        rw [iI_nat] at Z
        refine a_iload_3 rfl rfl ?_
        refine a_bipush (v := (nI 12)) rfl rfl rfl ?_
        refine a_cmpN_ge rfl rfl rfl (by omega) (by omega) (fun c_7 => False.elim (by omega)) (fun _ => ?_)
        refine a_iload_0 rfl rfl ?_
        refine a_iload_3 rfl rfl ?_
        refine a_statI rfl rfl (r_has (nI v) i (by omega)) (Nat.le_of_ble_eq_true rfl) ⟨rfl, rfl, rfl⟩ rfl rfl rfl (Nat.le_of_ble_eq_true rfl) rfl ?_
        refine a_ifb_ne rfl rfl rfl (fun _ => ?_) (fun c_15 => by first | exact absurd (H.trans c) c_15 | exact absurd c_15 (H.trans c))
        refine a_iload_2 rfl rfl ?_
        refine a_iconst (v := iI (-1)) rfl rfl rfl ?_
        refine a_cmpI_eq rfl rfl rfl (iI_toInt (by omega) (by omega)) (iI_toInt (by omega) (by omega)) (fun c_23 => ?_) (fun c_23 => ?_)
        · refine a_iload_3 rfl rfl ?_
          refine a_istore_2 rfl rfl rfl ?_
          refine a_iinc_3 rfl rfl (nI_inc _ _) rfl ?_
          refine a_goto rfl rfl ?_
          exact Z
        · refine a_iload_3 rfl rfl ?_
          refine a_as (y := iI ((i : Int))) (iI_nat i).symm ?_
          refine a_iload_2 rfl rfl ?_
          refine a_isubZ rfl rfl ?_
          refine a_iload_1 rfl rfl ?_
          refine a_as (y := iI ((gap : Int))) (iI_nat gap).symm ?_
          refine a_cmpI_gt rfl rfl rfl (iI_toInt (by omega) (by omega)) (iI_toInt (by omega) (by omega)) (fun _ => ?_) (fun c_30 => False.elim (by omega))
          refine a_iload_3 rfl rfl ?_
          refine a_istore_2 rfl rfl rfl ?_
          refine a_iinc_3 rfl rfl (nI_inc _ _) rfl ?_
          refine a_goto rfl rfl ?_
          exact Z
      · rw [s, decide_eq_false d, Bool.false_and]
        refine a_iload_3 rfl rfl ?_
        refine a_bipush (v := (nI 12)) rfl rfl rfl ?_
        refine a_cmpN_ge rfl rfl rfl (by omega) (by omega) (fun c_7 => False.elim (by omega)) (fun _ => ?_)
        refine a_iload_0 rfl rfl ?_
        refine a_iload_3 rfl rfl ?_
        refine a_statI rfl rfl (r_has (nI v) i (by omega)) (Nat.le_of_ble_eq_true rfl) ⟨rfl, rfl, rfl⟩ rfl rfl rfl (Nat.le_of_ble_eq_true rfl) rfl ?_
        refine a_ifb_ne rfl rfl rfl (fun _ => ?_) (fun c_15 => by first | exact absurd (H.trans c) c_15 | exact absurd c_15 (H.trans c))
        refine a_iload_2 rfl rfl ?_
        refine a_iconst (v := iI (-1)) rfl rfl rfl ?_
        refine a_cmpI_eq rfl rfl rfl (iI_toInt (by omega) (by omega)) (iI_toInt (by omega) (by omega)) (fun c_23 => False.elim (by omega)) (fun _ => ?_)
        refine a_iload_3 rfl rfl ?_
        refine a_as (y := iI ((i : Int))) (iI_nat i).symm ?_
        refine a_iload_2 rfl rfl ?_
        refine a_isubZ rfl rfl ?_
        refine a_iload_1 rfl rfl ?_
        refine a_as (y := iI ((gap : Int))) (iI_nat gap).symm ?_
        refine a_cmpI_gt rfl rfl rfl (iI_toInt (by omega) (by omega)) (iI_toInt (by omega) (by omega)) (fun c_30 => False.elim (by omega)) (fun _ => ?_)
        refine a_iconst (v := (nI 0)) rfl rfl rfl ?_
        refine av_to (a_zret rfl rfl (Or.inl rfl)) (bz0 ?_)
        simp
    · rw [if_neg c] at s
      have Z := ih (i + 1) la nx (by omega) (by omega)
      rw [s]
      refine a_iload_3 rfl rfl ?_
      refine a_bipush (v := (nI 12)) rfl rfl rfl ?_
      refine a_cmpN_ge rfl rfl rfl (by omega) (by omega) (fun c_7 => False.elim (by omega)) (fun _ => ?_)
      refine a_iload_0 rfl rfl ?_
      refine a_iload_3 rfl rfl ?_
      refine a_statI rfl rfl (r_has (nI v) i (by omega)) (Nat.le_of_ble_eq_true rfl) ⟨rfl, rfl, rfl⟩ rfl rfl rfl (Nat.le_of_ble_eq_true rfl) rfl ?_
      refine a_ifb_ne rfl rfl rfl (fun c_15 => by first | exact absurd c_15 (fun q => c (H.symm.trans q)) | exact absurd (fun q => c (H.symm.trans q)) c_15) (fun _ => ?_)
      refine a_goto rfl rfl ?_
      refine a_iinc_3 rfl rfl (nI_inc _ _) rfl ?_
      refine a_goto rfl rfl ?_
      exact Z
theorem r_apart {σ : mvSt} (v gap : Nat) (hgap : gap ≤ 11) : avE 1 315 [.int (nI v), .int (nI gap)] σ (some (.int (bI (lA gap (tB v) 12 0 = true))), σ) := by
  have Z := l_apart (σ := σ) v gap hgap 12 0 (-1) 0 rfl (Or.inl ⟨rfl, rfl⟩)
  show avA _ 315 0 [.int (nI (v)), .int (nI (gap)), mvU, mvU] [] _ _
  refine a_iconst (v := iI (-1)) rfl rfl rfl ?_
  refine a_istore_2 rfl rfl rfl ?_
  refine a_iconst (v := (nI 0)) rfl rfl rfl ?_
  refine a_istore_3 rfl rfl rfl ?_
  exact Z
theorem l_gain {g : Nat → Int} (G : ∀ m, m < 12 → h 82 (138 + m) = iI (g m)) (v n : Nat) : ∀ (i : Nat) (x : Int), i + n = 12 → avA 1 316 4 [.ref 81, .int (nI v), .int (iI x), .int (nI i)] [] (sX L t lt rt rp sw h gl) (some (.int (iI (x + lG g (tB v) (12 - i)))), sX L t lt rt rp sw h gl) := by
  induction n with
  | zero =>
    intro i x hi
    have e : i = 12 := by omega
    subst e
    show avA _ _ _ _ _ _ (some (.int (iI (x + 0))), _)
    rw [Int.add_zero]
    refine a_iload_3 rfl rfl ?_
    refine a_bipush (v := (nI 12)) rfl rfl rfl ?_
    refine a_cmpN_ge rfl rfl rfl (by omega) (by omega) (fun _ => ?_) (fun c_7 => absurd c_7 (by decide))
    refine a_iload_2 rfl rfl ?_
    exact a_iret rfl rfl
  | succ n ih =>
    intro i x hi
    have H := t_has v i (by omega)
    have s : lG g (tB v) (12 - i) = (if tB v i = true then g i else 0) + lG g (tB v) (12 - (i + 1)) := by
      rw [show 12 - i = (11 - i) + 1 by omega, lG, show 11 - (11 - i) = i by omega, show 11 - i = 12 - (i + 1) by omega]
    rw [s]
    by_cases c : tB v i = true
    · have Z := ih (i + 1) (x + g i) (by omega)
      rw [if_pos c, ← Int.add_assoc]
      refine a_iload_3 rfl rfl ?_
      refine a_bipush (v := (nI 12)) rfl rfl rfl ?_
      refine a_cmpN_ge rfl rfl rfl (by omega) (by omega) (fun c_7 => False.elim (by omega)) (fun _ => ?_)
      refine a_iload_2 rfl rfl ?_
      refine a_iload_1 rfl rfl ?_
      refine a_iload_3 rfl rfl ?_
      refine a_statI rfl rfl (r_has (nI v) i (by omega)) (Nat.le_of_ble_eq_true rfl) ⟨rfl, rfl, rfl⟩ rfl rfl rfl (Nat.le_of_ble_eq_true rfl) rfl ?_
      refine a_ifb_eq rfl rfl rfl (fun c_16 => by first | exact absurd c_16 (not_not_intro (H.trans c)) | exact absurd (not_not_intro (H.trans c)) c_16) (fun _ => ?_)
      refine a_aload_0 rfl rfl ?_
      refine a_getr rfl rfl rfl (fun _ _ _ => rfl) rfl ?_
      refine a_sipush (v := (nI 138)) rfl rfl rfl ?_
      refine a_iload_3 rfl rfl ?_
      refine a_iaddN rfl rfl ?_
      refine a_iald rfl rfl (Or.inl rfl) rfl (by omega) (by decide) ?_
      refine a_as (y := iI (g i)) (G i (by omega)) ?_
      refine a_goto rfl rfl ?_
      refine a_iaddZ rfl rfl ?_
      refine a_istore_2 rfl rfl rfl ?_
      refine a_iinc_3 rfl rfl (nI_inc _ _) rfl ?_
      refine a_goto rfl rfl ?_
      exact Z
    · have Z := ih (i + 1) (x + 0) (by omega)
      rw [if_neg c, ← Int.add_assoc]
      refine a_iload_3 rfl rfl ?_
      refine a_bipush (v := (nI 12)) rfl rfl rfl ?_
      refine a_cmpN_ge rfl rfl rfl (by omega) (by omega) (fun c_7 => False.elim (by omega)) (fun _ => ?_)
      refine a_iload_2 rfl rfl ?_
      refine a_iload_1 rfl rfl ?_
      refine a_iload_3 rfl rfl ?_
      refine a_statI rfl rfl (r_has (nI v) i (by omega)) (Nat.le_of_ble_eq_true rfl) ⟨rfl, rfl, rfl⟩ rfl rfl rfl (Nat.le_of_ble_eq_true rfl) rfl ?_
      refine a_ifb_eq rfl rfl rfl (fun _ => ?_) (fun c_16 => by first | exact absurd (fun q => c (H.symm.trans q)) c_16 | exact absurd c_16 (fun q => c (H.symm.trans q)))
      refine a_iconst (v := iI (0)) rfl rfl rfl ?_
      refine a_iaddZ rfl rfl ?_
      refine a_istore_2 rfl rfl rfl ?_
      refine a_iinc_3 rfl rfl (nI_inc _ _) rfl ?_
      refine a_goto rfl rfl ?_
      exact Z
theorem r_gainOf {g : Nat → Int} (G : ∀ m, m < 12 → h 82 (138 + m) = iI (g m)) (v : Nat) : avE 1 316 [.ref 81, .int (nI v)] (sX L t lt rt rp sw h gl) (some (.int (iI (lG g (tB v) 12))), sX L t lt rt rp sw h gl) := by
  have Z := l_gain (L := L) (t := t) (lt := lt) (rt := rt) (rp := rp) (sw := sw) (gl := gl) G v 12 0 0 rfl
  rw [Int.zero_add] at Z
  show avA _ 316 0 [.ref 81, .int (nI (v)), mvU, mvU] [] _ _
  refine a_iconst (v := iI (0)) rfl rfl rfl ?_
  refine a_istore_2 rfl rfl rfl ?_
  refine a_iconst (v := (nI 0)) rfl rfl rfl ?_
  refine a_istore_3 rfl rfl rfl ?_
  exact Z
end LR
