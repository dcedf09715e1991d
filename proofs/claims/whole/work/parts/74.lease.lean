/-! THE LEASE: both -/
abbrev gA (A : Nat → Int32) (m : Nat) : Int := (A (138 + m)).toInt
theorem gA_b {A : Nat → Int32} (ok : okA A) : ∀ i, i < 12 → -99 ≤ gA A i ∧ gA A i ≤ 99 := fun i hi => by
  have := ok.1 (138 + i) (by omega)
  unfold inB at this
  rw [bd_gain hi] at this
  exact this
def nB (g : Nat → Int) (gap k : Nat) : Nat := bsN 12 (lB g gap 12 k)
theorem nB_t (g : Nat → Int) (gap k i : Nat) : tB (nB g gap k) i = lB g gap 12 k i := by
  show (bsN 12 (lB g gap 12 k)).testBit i = _
  rw [bs_t]
  by_cases c : i < 12
  · simp [c]
  · cases e : lB g gap 12 k i with
    | false => simp
    | true => have := lB_in g gap 12 12 k i (by omega) (by omega) e; omega
theorem nB_lt (g : Nat → Int) (gap k : Nat) : nB g gap k < 4096 := bs_lt 12 _
theorem nB_f (g : Nat → Int) (gap k : Nat) : tB (nB g gap k) = lB g gap 12 k := funext (nB_t g gap k)
/-- may it be let so? -/
abbrev fe (gap k v : Nat) : Prop := lA gap (tB v) 12 0 = true ∧ lC (tB v) 12 ≤ k
theorem nB_fe (g : Nat → Int) (gap k : Nat) : fe gap k (nB g gap k) := by
  obtain ⟨a, b, _⟩ := lB_ok g gap 12 12 k (by omega) (by omega)
  unfold fe
  rw [nB_f]
  exact ⟨a, b⟩
theorem nB_best {g : Nat → Int} {gap k v : Nat} (hv : v < 4096) (f : fe gap k v) : 16 * lG g (tB v) 12 - lC (tB v) 12 ≤ 16 * lG g (tB (nB g gap k)) 12 - lC (tB (nB g gap k)) 12 ∧ (16 * lG g (tB v) 12 - lC (tB v) 12 = 16 * lG g (tB (nB g gap k)) 12 - lC (tB (nB g gap k)) 12 → v = nB g gap k ∨ lH (tB (nB g gap k)) (tB v) 12 = true) := by
  obtain ⟨_, _, w⟩ := lB_ok g gap 12 12 k (by omega) (by omega)
  obtain ⟨a, b⟩ := lB_best g gap 12 12 k (tB v) (by omega) (by omega) f.1 f.2
  unfold lO at w a b
  rw [nB_f, w]
  refine ⟨a, fun e => ?_⟩
  rcases b e with u | u
  · left
    apply Nat.eq_of_testBit_eq
    intro i
    have := nB_t g gap k i
    unfold tB at this
    rw [this]
    by_cases c : i < 12
    · exact (u i (by omega) c).symm
    · rw [Nat.testBit_lt_two_pow (Nat.lt_of_lt_of_le hv (by show 2 ^ 12 ≤ 2 ^ i; exact Nat.pow_le_pow_right (by omega) (by omega)))]
      cases e : lB g gap 12 k i with
      | false => rfl
      | true => have := lB_in g gap 12 12 k i (by omega) (by omega) e; omega
  · right
    exact u
section LL
variable {L t : Nat} {lt rt rp : Option Nat} {sw : Bool} {gl : Nat → Nat → Int64} {h : Nat → Nat → Int32} {g : Nat → Int}
theorem l_lease (hg : ∀ i, i < 12 → -99 ≤ g i ∧ g i ≤ 99) (G : ∀ m, m < 12 → h 82 (138 + m) = iI (g m)) {gap k : Nat} (hgap : gap ≤ 11) (hk : k ≤ 12) (x : Int32) {r : Option Value × mvSt} (E : ∀ y, avA 2 314 132 [.ref 81, .int (nI k), .int (nI gap), .int x, .int (nI (nB g gap k)), .int (nI 4096), y] [] (sX L t lt rt rp sw h gl) r) (n : Nat) : ∀ (v w : Nat) (y : Value), mvIsL y = false → v + n = 4096 → w < 4096 → fe gap k w → (nB g gap k < v → w = nB g gap k) → avA 2 314 40 [.ref 81, .int (nI k), .int (nI gap), .int x, .int (nI w), .int (nI v), y] [] (sX L t lt rt rp sw h gl) r := by
  have bl := nB_lt g gap k
  have bf := nB_fe g gap k
  induction n with
  | zero =>
    intro v w y hy hv hw f I
    have e : v = 4096 := by omega
    subst e
    have Z := E y
    rw [I (by omega)]
    refine a_iload_5 rfl rfl ?_
    refine a_sipush (v := (nI 4096)) rfl rfl rfl ?_
    refine a_cmpN_ge rfl rfl rfl (by omega) (by omega) (fun _ => ?_) (fun c_45 => absurd c_45 (by decide))
    exact Z
  | succ n ih =>
    intro v w y hy hv hw f I
    have cv := lC_le (tB v) 12
    have cw := lC_le (tB w) 12
    have Bv := r_bits (σ := sX L t lt rt rp sw h gl) v (by omega)
    have Bw := r_bits (σ := sX L t lt rt rp sw h gl) w (by omega)
    rw [lc_bits v (by omega)] at Bv
    rw [lc_bits w hw] at Bw
    by_cases c1 : lC (tB v) 12 ≤ k
    · by_cases c2 : lA gap (tB v) 12 0 = true
      · have fv : fe gap k v := ⟨c2, c1⟩
        have gv := lG_b hg (tB v) 12 (by omega)
        have gw := lG_b hg (tB w) 12 (by omega)
        have gb := lG_b hg (tB (nB g gap k)) 12 (by omega)
        have cb := lC_le (tB (nB g gap k)) 12
        obtain ⟨v1, v2⟩ := nB_best (g := g) (by omega) fv
        obtain ⟨w1, w2⟩ := nB_best (g := g) hw f
        have Gv := r_gainOf (L := L) (t := t) (lt := lt) (rt := rt) (rp := rp) (sw := sw) (gl := gl) G v
        have Gw := r_gainOf (L := L) (t := t) (lt := lt) (rt := rt) (rp := rp) (sw := sw) (gl := gl) G w
        have AH := r_isAhead (σ := sX L t lt rt rp sw h gl) v w (by omega) hw
        have S : ∀ u y', mvIsL y' = false → (u = v ∨ u = w) → (v = nB g gap k → u = v ∨ w = v) → (v ≠ nB g gap k → nB g gap k < v → u = w) → avA 2 314 40 [.ref 81, .int (nI k), .int (nI gap), .int x, .int (nI u), .int (nI (v + 1)), y'] [] (sX L t lt rt rp sw h gl) r := by
          intro u y' hy' hu h1 h2
          refine ih (v + 1) u y' hy' (by omega) (by omega) (by rcases hu with rfl | rfl <;> assumption) (fun q => ?_)
          by_cases e : v = nB g gap k
          · rcases h1 e with a | a
            · omega
            · omega
          · have := I (by omega)
            rw [h2 e (by omega)]
            exact this
        by_cases ev : v = w
        · subst ev
          have Z := S v (.int (iI ((lC (tB v) 12 : Int) - (lC (tB v) 12 : Int)))) rfl (Or.inl rfl) (fun _ => Or.inl rfl) (fun _ _ => rfl)
          have d := lH_self (tB v) 12
          refine a_iload_5 rfl rfl ?_
          refine a_sipush (v := (nI 4096)) rfl rfl rfl ?_
          refine a_cmpN_ge rfl rfl rfl (by omega) (by omega) (fun c_45 => False.elim (by omega)) (fun _ => ?_)
          refine a_iload_5 rfl rfl ?_
          refine a_statI rfl rfl (Bv) (Nat.le_of_ble_eq_true rfl) ⟨rfl, rfl, rfl⟩ rfl rfl rfl (Nat.le_of_ble_eq_true rfl) rfl ?_
          refine a_iload_1 rfl rfl ?_
          refine a_cmpN_gt rfl rfl rfl (by omega) (by omega) (fun c_54 => False.elim (by omega)) (fun _ => ?_)
          refine a_iload_5 rfl rfl ?_
          refine a_iload_2 rfl rfl ?_
          refine a_statI rfl rfl (r_apart v gap hgap) (Nat.le_of_ble_eq_true rfl) ⟨rfl, rfl, rfl⟩ rfl rfl rfl (Nat.le_of_ble_eq_true rfl) rfl ?_
          refine a_ifb_ne rfl rfl rfl (fun _ => ?_) (fun c_63 => by first | exact absurd c2 c_63 | exact absurd c_63 c2)
          refine a_aload_0 rfl rfl ?_
          refine a_iload_5 rfl rfl ?_
          refine a_virtI rfl rfl (Gv) (Nat.le_of_ble_eq_true rfl) ⟨rfl, rfl, rfl, rfl⟩ rfl rfl rfl (Nat.le_of_ble_eq_true rfl) rfl rfl ?_
          refine a_aload_0 rfl rfl ?_
          refine a_iload_4 rfl rfl ?_
          refine a_virtI rfl rfl (Gv) (Nat.le_of_ble_eq_true rfl) ⟨rfl, rfl, rfl, rfl⟩ rfl rfl rfl (Nat.le_of_ble_eq_true rfl) rfl rfl ?_
          refine a_isubZ rfl rfl ?_
          refine a_istore_6 rfl rfl rfl ?_
          refine a_iload_6 rfl rfl ?_
          refine a_ifI_ne rfl rfl rfl (iI_toInt (by omega) (by omega)) (fun c_86 => False.elim (by omega)) (fun _ => ?_)
          refine a_iload_4 rfl rfl ?_
          refine a_statI rfl rfl (Bv) (Nat.le_of_ble_eq_true rfl) ⟨rfl, rfl, rfl⟩ rfl rfl rfl (Nat.le_of_ble_eq_true rfl) rfl ?_
          refine a_as (y := iI (((lC (tB v) 12 : Nat) : Int))) (iI_nat _).symm ?_
          refine a_iload_5 rfl rfl ?_
          refine a_statI rfl rfl (Bv) (Nat.le_of_ble_eq_true rfl) ⟨rfl, rfl, rfl⟩ rfl rfl rfl (Nat.le_of_ble_eq_true rfl) rfl ?_
          refine a_as (y := iI (((lC (tB v) 12 : Nat) : Int))) (iI_nat _).symm ?_
          refine a_isubZ rfl rfl ?_
          refine a_istore_6 rfl rfl rfl ?_
          refine a_iload_6 rfl rfl ?_
          refine a_ifI_gt rfl rfl rfl (iI_toInt (by omega) (by omega)) (fun c_104 => False.elim (by omega)) (fun _ => ?_)
          refine a_iload_6 rfl rfl ?_
          refine a_ifI_ne rfl rfl rfl (iI_toInt (by omega) (by omega)) (fun c_109 => False.elim (by omega)) (fun _ => ?_)
          refine a_iload_5 rfl rfl ?_
          refine a_iload_4 rfl rfl ?_
          refine a_statI rfl rfl (AH) (Nat.le_of_ble_eq_true rfl) ⟨rfl, rfl, rfl⟩ rfl rfl rfl (Nat.le_of_ble_eq_true rfl) rfl ?_
          refine a_ifb_eq rfl rfl rfl (fun _ => ?_) (fun c_119 => by first | exact absurd (by rw [d]; simp) c_119 | exact absurd c_119 (by rw [d]; simp))
          refine a_iinc_5 rfl rfl (nI_inc _ _) rfl ?_
          refine a_goto rfl rfl ?_
          exact Z
        rcases Int.lt_trichotomy (lG g (tB w) 12) (lG g (tB v) 12) with d | d0 | d
        · have Z := S v (.int (iI (lG g (tB v) 12 - lG g (tB w) 12))) rfl (Or.inl rfl) (fun _ => Or.inl rfl) (fun e1 e2 => by
            have q := I e2
            rw [q] at d
            omega)
          refine a_iload_5 rfl rfl ?_
          refine a_sipush (v := (nI 4096)) rfl rfl rfl ?_
          refine a_cmpN_ge rfl rfl rfl (by omega) (by omega) (fun c_45 => False.elim (by omega)) (fun _ => ?_)
          refine a_iload_5 rfl rfl ?_
          refine a_statI rfl rfl (Bv) (Nat.le_of_ble_eq_true rfl) ⟨rfl, rfl, rfl⟩ rfl rfl rfl (Nat.le_of_ble_eq_true rfl) rfl ?_
          refine a_iload_1 rfl rfl ?_
          refine a_cmpN_gt rfl rfl rfl (by omega) (by omega) (fun c_54 => False.elim (by omega)) (fun _ => ?_)
          refine a_iload_5 rfl rfl ?_
          refine a_iload_2 rfl rfl ?_
          refine a_statI rfl rfl (r_apart v gap hgap) (Nat.le_of_ble_eq_true rfl) ⟨rfl, rfl, rfl⟩ rfl rfl rfl (Nat.le_of_ble_eq_true rfl) rfl ?_
          refine a_ifb_ne rfl rfl rfl (fun _ => ?_) (fun c_63 => by first | exact absurd c2 c_63 | exact absurd c_63 c2)
          refine a_aload_0 rfl rfl ?_
          refine a_iload_5 rfl rfl ?_
          refine a_virtI rfl rfl (Gv) (Nat.le_of_ble_eq_true rfl) ⟨rfl, rfl, rfl, rfl⟩ rfl rfl rfl (Nat.le_of_ble_eq_true rfl) rfl rfl ?_
          refine a_aload_0 rfl rfl ?_
          refine a_iload_4 rfl rfl ?_
          refine a_virtI rfl rfl (Gw) (Nat.le_of_ble_eq_true rfl) ⟨rfl, rfl, rfl, rfl⟩ rfl rfl rfl (Nat.le_of_ble_eq_true rfl) rfl rfl ?_
          refine a_isubZ rfl rfl ?_
          refine a_istore_6 rfl rfl rfl ?_
          refine a_iload_6 rfl rfl ?_
          refine a_ifI_ne rfl rfl rfl (iI_toInt (by omega) (by omega)) (fun _ => ?_) (fun c_86 => False.elim (by omega))
          refine a_iload_6 rfl rfl ?_
          refine a_ifI_gt rfl rfl rfl (iI_toInt (by omega) (by omega)) (fun _ => ?_) (fun c_104 => False.elim (by omega))
          refine a_iload_5 rfl rfl ?_
          refine a_istore_4 rfl rfl rfl ?_
          refine a_iinc_5 rfl rfl (nI_inc _ _) rfl ?_
          refine a_goto rfl rfl ?_
          exact Z
        · rcases Nat.lt_trichotomy (lC (tB v) 12) (lC (tB w) 12) with d1 | d1 | d1
          · have d : lG g (tB v) 12 = lG g (tB w) 12 ∧ lC (tB v) 12 < lC (tB w) 12 := ⟨d0.symm, d1⟩
            have Z := S v (.int (iI ((lC (tB w) 12 : Int) - (lC (tB v) 12 : Int)))) rfl (Or.inl rfl) (fun _ => Or.inl rfl) (fun e1 e2 => by
              have q := I e2
              rw [q] at d
              omega)
            refine a_iload_5 rfl rfl ?_
            refine a_sipush (v := (nI 4096)) rfl rfl rfl ?_
            refine a_cmpN_ge rfl rfl rfl (by omega) (by omega) (fun c_45 => False.elim (by omega)) (fun _ => ?_)
            refine a_iload_5 rfl rfl ?_
            refine a_statI rfl rfl (Bv) (Nat.le_of_ble_eq_true rfl) ⟨rfl, rfl, rfl⟩ rfl rfl rfl (Nat.le_of_ble_eq_true rfl) rfl ?_
            refine a_iload_1 rfl rfl ?_
            refine a_cmpN_gt rfl rfl rfl (by omega) (by omega) (fun c_54 => False.elim (by omega)) (fun _ => ?_)
            refine a_iload_5 rfl rfl ?_
            refine a_iload_2 rfl rfl ?_
            refine a_statI rfl rfl (r_apart v gap hgap) (Nat.le_of_ble_eq_true rfl) ⟨rfl, rfl, rfl⟩ rfl rfl rfl (Nat.le_of_ble_eq_true rfl) rfl ?_
            refine a_ifb_ne rfl rfl rfl (fun _ => ?_) (fun c_63 => by first | exact absurd c2 c_63 | exact absurd c_63 c2)
            refine a_aload_0 rfl rfl ?_
            refine a_iload_5 rfl rfl ?_
            refine a_virtI rfl rfl (Gv) (Nat.le_of_ble_eq_true rfl) ⟨rfl, rfl, rfl, rfl⟩ rfl rfl rfl (Nat.le_of_ble_eq_true rfl) rfl rfl ?_
            refine a_aload_0 rfl rfl ?_
            refine a_iload_4 rfl rfl ?_
            refine a_virtI rfl rfl (Gw) (Nat.le_of_ble_eq_true rfl) ⟨rfl, rfl, rfl, rfl⟩ rfl rfl rfl (Nat.le_of_ble_eq_true rfl) rfl rfl ?_
            refine a_isubZ rfl rfl ?_
            refine a_istore_6 rfl rfl rfl ?_
            refine a_iload_6 rfl rfl ?_
            refine a_ifI_ne rfl rfl rfl (iI_toInt (by omega) (by omega)) (fun c_86 => False.elim (by omega)) (fun _ => ?_)
            refine a_iload_4 rfl rfl ?_
            refine a_statI rfl rfl (Bw) (Nat.le_of_ble_eq_true rfl) ⟨rfl, rfl, rfl⟩ rfl rfl rfl (Nat.le_of_ble_eq_true rfl) rfl ?_
            refine a_as (y := iI (((lC (tB w) 12 : Nat) : Int))) (iI_nat _).symm ?_
            refine a_iload_5 rfl rfl ?_
            refine a_statI rfl rfl (Bv) (Nat.le_of_ble_eq_true rfl) ⟨rfl, rfl, rfl⟩ rfl rfl rfl (Nat.le_of_ble_eq_true rfl) rfl ?_
            refine a_as (y := iI (((lC (tB v) 12 : Nat) : Int))) (iI_nat _).symm ?_
            refine a_isubZ rfl rfl ?_
            refine a_istore_6 rfl rfl rfl ?_
            refine a_iload_6 rfl rfl ?_
            refine a_ifI_gt rfl rfl rfl (iI_toInt (by omega) (by omega)) (fun _ => ?_) (fun c_104 => False.elim (by omega))
            refine a_iload_5 rfl rfl ?_
            refine a_istore_4 rfl rfl rfl ?_
            refine a_iinc_5 rfl rfl (nI_inc _ _) rfl ?_
            refine a_goto rfl rfl ?_
            exact Z
          · by_cases d2 : lH (tB v) (tB w) 12 = true
            · have d : lG g (tB v) 12 = lG g (tB w) 12 ∧ lC (tB v) 12 = lC (tB w) 12 ∧ lH (tB v) (tB w) 12 = true := ⟨d0.symm, d1, d2⟩
              have Z := S v (.int (iI ((lC (tB w) 12 : Int) - (lC (tB v) 12 : Int)))) rfl (Or.inl rfl) (fun _ => Or.inl rfl) (fun e1 e2 => by
                have q := I e2
                rw [q] at d ev
                rcases v2 (by omega) with z | z
                · exact absurd z e1
                · rw [lH_as 12 z] at d; exact absurd d.2.2 (by simp))
              refine a_iload_5 rfl rfl ?_
              refine a_sipush (v := (nI 4096)) rfl rfl rfl ?_
              refine a_cmpN_ge rfl rfl rfl (by omega) (by omega) (fun c_45 => False.elim (by omega)) (fun _ => ?_)
              refine a_iload_5 rfl rfl ?_
              refine a_statI rfl rfl (Bv) (Nat.le_of_ble_eq_true rfl) ⟨rfl, rfl, rfl⟩ rfl rfl rfl (Nat.le_of_ble_eq_true rfl) rfl ?_
              refine a_iload_1 rfl rfl ?_
              refine a_cmpN_gt rfl rfl rfl (by omega) (by omega) (fun c_54 => False.elim (by omega)) (fun _ => ?_)
              refine a_iload_5 rfl rfl ?_
              refine a_iload_2 rfl rfl ?_
              refine a_statI rfl rfl (r_apart v gap hgap) (Nat.le_of_ble_eq_true rfl) ⟨rfl, rfl, rfl⟩ rfl rfl rfl (Nat.le_of_ble_eq_true rfl) rfl ?_
              refine a_ifb_ne rfl rfl rfl (fun _ => ?_) (fun c_63 => by first | exact absurd c2 c_63 | exact absurd c_63 c2)
              refine a_aload_0 rfl rfl ?_
              refine a_iload_5 rfl rfl ?_
              refine a_virtI rfl rfl (Gv) (Nat.le_of_ble_eq_true rfl) ⟨rfl, rfl, rfl, rfl⟩ rfl rfl rfl (Nat.le_of_ble_eq_true rfl) rfl rfl ?_
              refine a_aload_0 rfl rfl ?_
              refine a_iload_4 rfl rfl ?_
              refine a_virtI rfl rfl (Gw) (Nat.le_of_ble_eq_true rfl) ⟨rfl, rfl, rfl, rfl⟩ rfl rfl rfl (Nat.le_of_ble_eq_true rfl) rfl rfl ?_
              refine a_isubZ rfl rfl ?_
              refine a_istore_6 rfl rfl rfl ?_
              refine a_iload_6 rfl rfl ?_
              refine a_ifI_ne rfl rfl rfl (iI_toInt (by omega) (by omega)) (fun c_86 => False.elim (by omega)) (fun _ => ?_)
              refine a_iload_4 rfl rfl ?_
              refine a_statI rfl rfl (Bw) (Nat.le_of_ble_eq_true rfl) ⟨rfl, rfl, rfl⟩ rfl rfl rfl (Nat.le_of_ble_eq_true rfl) rfl ?_
              refine a_as (y := iI (((lC (tB w) 12 : Nat) : Int))) (iI_nat _).symm ?_
              refine a_iload_5 rfl rfl ?_
              refine a_statI rfl rfl (Bv) (Nat.le_of_ble_eq_true rfl) ⟨rfl, rfl, rfl⟩ rfl rfl rfl (Nat.le_of_ble_eq_true rfl) rfl ?_
              refine a_as (y := iI (((lC (tB v) 12 : Nat) : Int))) (iI_nat _).symm ?_
              refine a_isubZ rfl rfl ?_
              refine a_istore_6 rfl rfl rfl ?_
              refine a_iload_6 rfl rfl ?_
              refine a_ifI_gt rfl rfl rfl (iI_toInt (by omega) (by omega)) (fun c_104 => False.elim (by omega)) (fun _ => ?_)
              refine a_iload_6 rfl rfl ?_
              refine a_ifI_ne rfl rfl rfl (iI_toInt (by omega) (by omega)) (fun c_109 => False.elim (by omega)) (fun _ => ?_)
              refine a_iload_5 rfl rfl ?_
              refine a_iload_4 rfl rfl ?_
              refine a_statI rfl rfl (AH) (Nat.le_of_ble_eq_true rfl) ⟨rfl, rfl, rfl⟩ rfl rfl rfl (Nat.le_of_ble_eq_true rfl) rfl ?_
              refine a_ifb_eq rfl rfl rfl (fun c_119 => by first | exact absurd c_119 (not_not_intro d.2.2) | exact absurd (not_not_intro d.2.2) c_119) (fun _ => ?_)
              refine a_iload_5 rfl rfl ?_
              refine a_istore_4 rfl rfl rfl ?_
              refine a_iinc_5 rfl rfl (nI_inc _ _) rfl ?_
              refine a_goto rfl rfl ?_
              exact Z
            · have d : lG g (tB v) 12 = lG g (tB w) 12 ∧ lC (tB v) 12 = lC (tB w) 12 ∧ ¬ lH (tB v) (tB w) 12 = true := ⟨d0.symm, d1, d2⟩
              have Z := S w (.int (iI ((lC (tB w) 12 : Int) - (lC (tB v) 12 : Int)))) rfl (Or.inr rfl) (fun e => by
                rw [← e] at w2 w1
                rcases w2 (by omega) with z | z
                · exact absurd z.symm ev
                · exact absurd z d.2.2) (fun _ _ => rfl)
              refine a_iload_5 rfl rfl ?_
              refine a_sipush (v := (nI 4096)) rfl rfl rfl ?_
              refine a_cmpN_ge rfl rfl rfl (by omega) (by omega) (fun c_45 => False.elim (by omega)) (fun _ => ?_)
              refine a_iload_5 rfl rfl ?_
              refine a_statI rfl rfl (Bv) (Nat.le_of_ble_eq_true rfl) ⟨rfl, rfl, rfl⟩ rfl rfl rfl (Nat.le_of_ble_eq_true rfl) rfl ?_
              refine a_iload_1 rfl rfl ?_
              refine a_cmpN_gt rfl rfl rfl (by omega) (by omega) (fun c_54 => False.elim (by omega)) (fun _ => ?_)
              refine a_iload_5 rfl rfl ?_
              refine a_iload_2 rfl rfl ?_
              refine a_statI rfl rfl (r_apart v gap hgap) (Nat.le_of_ble_eq_true rfl) ⟨rfl, rfl, rfl⟩ rfl rfl rfl (Nat.le_of_ble_eq_true rfl) rfl ?_
              refine a_ifb_ne rfl rfl rfl (fun _ => ?_) (fun c_63 => by first | exact absurd c2 c_63 | exact absurd c_63 c2)
              refine a_aload_0 rfl rfl ?_
              refine a_iload_5 rfl rfl ?_
              refine a_virtI rfl rfl (Gv) (Nat.le_of_ble_eq_true rfl) ⟨rfl, rfl, rfl, rfl⟩ rfl rfl rfl (Nat.le_of_ble_eq_true rfl) rfl rfl ?_
              refine a_aload_0 rfl rfl ?_
              refine a_iload_4 rfl rfl ?_
              refine a_virtI rfl rfl (Gw) (Nat.le_of_ble_eq_true rfl) ⟨rfl, rfl, rfl, rfl⟩ rfl rfl rfl (Nat.le_of_ble_eq_true rfl) rfl rfl ?_
              refine a_isubZ rfl rfl ?_
              refine a_istore_6 rfl rfl rfl ?_
              refine a_iload_6 rfl rfl ?_
              refine a_ifI_ne rfl rfl rfl (iI_toInt (by omega) (by omega)) (fun c_86 => False.elim (by omega)) (fun _ => ?_)
              refine a_iload_4 rfl rfl ?_
              refine a_statI rfl rfl (Bw) (Nat.le_of_ble_eq_true rfl) ⟨rfl, rfl, rfl⟩ rfl rfl rfl (Nat.le_of_ble_eq_true rfl) rfl ?_
              refine a_as (y := iI (((lC (tB w) 12 : Nat) : Int))) (iI_nat _).symm ?_
              refine a_iload_5 rfl rfl ?_
              refine a_statI rfl rfl (Bv) (Nat.le_of_ble_eq_true rfl) ⟨rfl, rfl, rfl⟩ rfl rfl rfl (Nat.le_of_ble_eq_true rfl) rfl ?_
              refine a_as (y := iI (((lC (tB v) 12 : Nat) : Int))) (iI_nat _).symm ?_
              refine a_isubZ rfl rfl ?_
              refine a_istore_6 rfl rfl rfl ?_
              refine a_iload_6 rfl rfl ?_
              refine a_ifI_gt rfl rfl rfl (iI_toInt (by omega) (by omega)) (fun c_104 => False.elim (by omega)) (fun _ => ?_)
              refine a_iload_6 rfl rfl ?_
              refine a_ifI_ne rfl rfl rfl (iI_toInt (by omega) (by omega)) (fun c_109 => False.elim (by omega)) (fun _ => ?_)
              refine a_iload_5 rfl rfl ?_
              refine a_iload_4 rfl rfl ?_
              refine a_statI rfl rfl (AH) (Nat.le_of_ble_eq_true rfl) ⟨rfl, rfl, rfl⟩ rfl rfl rfl (Nat.le_of_ble_eq_true rfl) rfl ?_
              refine a_ifb_eq rfl rfl rfl (fun _ => ?_) (fun c_119 => by first | exact absurd d.2.2 c_119 | exact absurd c_119 d.2.2)
              refine a_iinc_5 rfl rfl (nI_inc _ _) rfl ?_
              refine a_goto rfl rfl ?_
              exact Z
          · have d : lG g (tB v) 12 = lG g (tB w) 12 ∧ lC (tB w) 12 < lC (tB v) 12 := ⟨d0.symm, d1⟩
            have Z := S w (.int (iI ((lC (tB w) 12 : Int) - (lC (tB v) 12 : Int)))) rfl (Or.inr rfl) (fun e => by
              rw [← e] at w1
              omega) (fun _ _ => rfl)
            refine a_iload_5 rfl rfl ?_
            refine a_sipush (v := (nI 4096)) rfl rfl rfl ?_
            refine a_cmpN_ge rfl rfl rfl (by omega) (by omega) (fun c_45 => False.elim (by omega)) (fun _ => ?_)
            refine a_iload_5 rfl rfl ?_
            refine a_statI rfl rfl (Bv) (Nat.le_of_ble_eq_true rfl) ⟨rfl, rfl, rfl⟩ rfl rfl rfl (Nat.le_of_ble_eq_true rfl) rfl ?_
            refine a_iload_1 rfl rfl ?_
            refine a_cmpN_gt rfl rfl rfl (by omega) (by omega) (fun c_54 => False.elim (by omega)) (fun _ => ?_)
            refine a_iload_5 rfl rfl ?_
            refine a_iload_2 rfl rfl ?_
            refine a_statI rfl rfl (r_apart v gap hgap) (Nat.le_of_ble_eq_true rfl) ⟨rfl, rfl, rfl⟩ rfl rfl rfl (Nat.le_of_ble_eq_true rfl) rfl ?_
            refine a_ifb_ne rfl rfl rfl (fun _ => ?_) (fun c_63 => by first | exact absurd c2 c_63 | exact absurd c_63 c2)
            refine a_aload_0 rfl rfl ?_
            refine a_iload_5 rfl rfl ?_
            refine a_virtI rfl rfl (Gv) (Nat.le_of_ble_eq_true rfl) ⟨rfl, rfl, rfl, rfl⟩ rfl rfl rfl (Nat.le_of_ble_eq_true rfl) rfl rfl ?_
            refine a_aload_0 rfl rfl ?_
            refine a_iload_4 rfl rfl ?_
            refine a_virtI rfl rfl (Gw) (Nat.le_of_ble_eq_true rfl) ⟨rfl, rfl, rfl, rfl⟩ rfl rfl rfl (Nat.le_of_ble_eq_true rfl) rfl rfl ?_
            refine a_isubZ rfl rfl ?_
            refine a_istore_6 rfl rfl rfl ?_
            refine a_iload_6 rfl rfl ?_
            refine a_ifI_ne rfl rfl rfl (iI_toInt (by omega) (by omega)) (fun c_86 => False.elim (by omega)) (fun _ => ?_)
            refine a_iload_4 rfl rfl ?_
            refine a_statI rfl rfl (Bw) (Nat.le_of_ble_eq_true rfl) ⟨rfl, rfl, rfl⟩ rfl rfl rfl (Nat.le_of_ble_eq_true rfl) rfl ?_
            refine a_as (y := iI (((lC (tB w) 12 : Nat) : Int))) (iI_nat _).symm ?_
            refine a_iload_5 rfl rfl ?_
            refine a_statI rfl rfl (Bv) (Nat.le_of_ble_eq_true rfl) ⟨rfl, rfl, rfl⟩ rfl rfl rfl (Nat.le_of_ble_eq_true rfl) rfl ?_
            refine a_as (y := iI (((lC (tB v) 12 : Nat) : Int))) (iI_nat _).symm ?_
            refine a_isubZ rfl rfl ?_
            refine a_istore_6 rfl rfl rfl ?_
            refine a_iload_6 rfl rfl ?_
            refine a_ifI_gt rfl rfl rfl (iI_toInt (by omega) (by omega)) (fun c_104 => False.elim (by omega)) (fun _ => ?_)
            refine a_iload_6 rfl rfl ?_
            refine a_ifI_ne rfl rfl rfl (iI_toInt (by omega) (by omega)) (fun _ => ?_) (fun c_109 => False.elim (by omega))
            refine a_iinc_5 rfl rfl (nI_inc _ _) rfl ?_
            refine a_goto rfl rfl ?_
            exact Z
        · have Z := S w (.int (iI (lG g (tB v) 12 - lG g (tB w) 12))) rfl (Or.inr rfl) (fun e => by
            rw [← e] at w1
            omega) (fun _ _ => rfl)
          refine a_iload_5 rfl rfl ?_
          refine a_sipush (v := (nI 4096)) rfl rfl rfl ?_
          refine a_cmpN_ge rfl rfl rfl (by omega) (by omega) (fun c_45 => False.elim (by omega)) (fun _ => ?_)
          refine a_iload_5 rfl rfl ?_
          refine a_statI rfl rfl (Bv) (Nat.le_of_ble_eq_true rfl) ⟨rfl, rfl, rfl⟩ rfl rfl rfl (Nat.le_of_ble_eq_true rfl) rfl ?_
          refine a_iload_1 rfl rfl ?_
          refine a_cmpN_gt rfl rfl rfl (by omega) (by omega) (fun c_54 => False.elim (by omega)) (fun _ => ?_)
          refine a_iload_5 rfl rfl ?_
          refine a_iload_2 rfl rfl ?_
          refine a_statI rfl rfl (r_apart v gap hgap) (Nat.le_of_ble_eq_true rfl) ⟨rfl, rfl, rfl⟩ rfl rfl rfl (Nat.le_of_ble_eq_true rfl) rfl ?_
          refine a_ifb_ne rfl rfl rfl (fun _ => ?_) (fun c_63 => by first | exact absurd c2 c_63 | exact absurd c_63 c2)
          refine a_aload_0 rfl rfl ?_
          refine a_iload_5 rfl rfl ?_
          refine a_virtI rfl rfl (Gv) (Nat.le_of_ble_eq_true rfl) ⟨rfl, rfl, rfl, rfl⟩ rfl rfl rfl (Nat.le_of_ble_eq_true rfl) rfl rfl ?_
          refine a_aload_0 rfl rfl ?_
          refine a_iload_4 rfl rfl ?_
          refine a_virtI rfl rfl (Gw) (Nat.le_of_ble_eq_true rfl) ⟨rfl, rfl, rfl, rfl⟩ rfl rfl rfl (Nat.le_of_ble_eq_true rfl) rfl rfl ?_
          refine a_isubZ rfl rfl ?_
          refine a_istore_6 rfl rfl rfl ?_
          refine a_iload_6 rfl rfl ?_
          refine a_ifI_ne rfl rfl rfl (iI_toInt (by omega) (by omega)) (fun _ => ?_) (fun c_86 => False.elim (by omega))
          refine a_iload_6 rfl rfl ?_
          refine a_ifI_gt rfl rfl rfl (iI_toInt (by omega) (by omega)) (fun c_104 => False.elim (by omega)) (fun _ => ?_)
          refine a_iload_6 rfl rfl ?_
          refine a_ifI_ne rfl rfl rfl (iI_toInt (by omega) (by omega)) (fun _ => ?_) (fun c_109 => False.elim (by omega))
          refine a_iinc_5 rfl rfl (nI_inc _ _) rfl ?_
          refine a_goto rfl rfl ?_
          exact Z
      · have Z := ih (v + 1) w y hy (by omega) hw f (fun q => by
          by_cases e : v = nB g gap k
          · rw [e] at c2; exact absurd bf.1 c2
          · exact I (by omega))
        refine a_iload_5 rfl rfl ?_
        refine a_sipush (v := (nI 4096)) rfl rfl rfl ?_
        refine a_cmpN_ge rfl rfl rfl (by omega) (by omega) (fun c_45 => False.elim (by omega)) (fun _ => ?_)
        refine a_iload_5 rfl rfl ?_
        refine a_statI rfl rfl (Bv) (Nat.le_of_ble_eq_true rfl) ⟨rfl, rfl, rfl⟩ rfl rfl rfl (Nat.le_of_ble_eq_true rfl) rfl ?_
        refine a_iload_1 rfl rfl ?_
        refine a_cmpN_gt rfl rfl rfl (by omega) (by omega) (fun c_54 => False.elim (by omega)) (fun _ => ?_)
        refine a_iload_5 rfl rfl ?_
        refine a_iload_2 rfl rfl ?_
        refine a_statI rfl rfl (r_apart v gap hgap) (Nat.le_of_ble_eq_true rfl) ⟨rfl, rfl, rfl⟩ rfl rfl rfl (Nat.le_of_ble_eq_true rfl) rfl ?_
        refine a_ifb_ne rfl rfl rfl (fun c_63 => by first | exact absurd c_63 c2 | exact absurd c2 c_63) (fun _ => ?_)
        refine a_goto rfl rfl ?_
        refine a_iinc_5 rfl rfl (nI_inc _ _) rfl ?_
        refine a_goto rfl rfl ?_
        exact Z
    · have Z := ih (v + 1) w y hy (by omega) hw f (fun q => by
        by_cases e : v = nB g gap k
        · rw [e] at c1; exact absurd bf.2 c1
        · exact I (by omega))
      refine a_iload_5 rfl rfl ?_
      refine a_sipush (v := (nI 4096)) rfl rfl rfl ?_
      refine a_cmpN_ge rfl rfl rfl (by omega) (by omega) (fun c_45 => False.elim (by omega)) (fun _ => ?_)
      refine a_iload_5 rfl rfl ?_
      refine a_statI rfl rfl (Bv) (Nat.le_of_ble_eq_true rfl) ⟨rfl, rfl, rfl⟩ rfl rfl rfl (Nat.le_of_ble_eq_true rfl) rfl ?_
      refine a_iload_1 rfl rfl ?_
      refine a_cmpN_gt rfl rfl rfl (by omega) (by omega) (fun _ => ?_) (fun c_54 => False.elim (by omega))
      refine a_iinc_5 rfl rfl (nI_inc _ _) rfl ?_
      refine a_goto rfl rfl ?_
      exact Z
end LL
