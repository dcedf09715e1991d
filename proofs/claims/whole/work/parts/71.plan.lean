/-! THE LEASE: the class -/
/-- behind the last month, and with none left to take, worths are 0 -/
def LZ (h : Nat → Nat → Int32) : Prop := (∀ m, m ≤ 12 → h 79 (m * 13) = iI 0) ∧ ∀ l, l ≤ 12 → h 79 (156 + l) = iI 0
abbrev TL (g : Nat → Int) (gap k j : Nat) (h : Nat → Nat → Int32) : Prop := ∀ i l, i ≤ j → l ≤ k → h 79 ((12 - i) * 13 + l) = iI (lW g gap i l)
section LE
variable {L t : Nat} {lt rt rp : Option Nat} {sw : Bool} {gl : Nat → Nat → Int64} {g : Nat → Int}
theorem e_worthWith {gap m l : Nat} {w : Int} {h : Nat → Nat → Int32} (hgap : gap ≤ 11) (hm : m < 12) (hl : l ≤ 11) (h1 : h 32 m = iI (g m)) (h2 : h 79 (min 12 (m + gap + 1) * 13 + l) = iI w) : avE 0 166 [.ref 78, .ref 32, .int (nI m), .int (nI (l + 1)), .int (nI gap)] (sX L t lt rt rp sw h gl) (some (.int (iI (g m * 16 - 1 + w))), sX L t lt rt rp sw h gl) := by
  have e : min 12 (m + gap + 1) * 13 + (l + 1) - 1 = min 12 (m + gap + 1) * 13 + l := by omega
  show avA _ 166 0 [.ref 78, .ref 32, .int (nI (m)), .int (nI (l + 1)), .int (nI (gap)), mvU] [] _ _
  refine a_bipush (v := (nI 12)) rfl rfl rfl ?_
  refine a_iload_2 rfl rfl ?_
  refine a_iload_4 rfl rfl ?_
  refine a_iaddN rfl rfl ?_
  refine a_iconst (v := (nI 1)) rfl rfl rfl ?_
  refine a_iaddN rfl rfl ?_
  refine a_minN rfl rfl (Nat.le_of_ble_eq_true rfl) (by omega) (by omega) ?_
  refine a_istore_5 rfl rfl rfl ?_
  refine a_aload_1 rfl rfl ?_
  refine a_iload_2 rfl rfl ?_
  refine a_iald rfl rfl (Or.inl rfl) rfl (by omega) (by decide) ?_
  refine a_as (y := iI (g m)) h1 ?_
  refine a_bipush (v := iI (16)) rfl rfl rfl ?_
  refine a_imulZ rfl rfl ?_
  refine a_iconst (v := iI (1)) rfl rfl rfl ?_
  refine a_isubZ rfl rfl ?_
  refine a_aload_0 rfl rfl ?_
  refine a_getr rfl rfl rfl (fun _ _ _ => rfl) rfl ?_
  refine a_iload_5 rfl rfl ?_
  refine a_bipush (v := (nI 13)) rfl rfl rfl ?_
  refine a_imulN rfl rfl ?_
  refine a_iload_3 rfl rfl ?_
  refine a_iaddN rfl rfl ?_
  refine a_iconst (v := (nI 1)) rfl rfl rfl ?_
  refine a_isubN rfl rfl (by omega) ?_
  refine a_iald rfl rfl (Or.inl rfl) rfl (by omega) (by decide) ?_
  refine a_as (y := iI (w)) (by rw [e]; exact h2) ?_
  refine a_iaddZ rfl rfl ?_
  exact a_iret rfl rfl
theorem TL_up {gap k j m l : Nat} {v : Int32} {h : Nat → Nat → Int32} (H : TL g gap k j h) (hm : m + j = 11) (hl : l ≤ 12) (hk : k ≤ 12) : TL g gap k j (mvPut h 79 (m * 13 + l) v) := fun i x hi hx => by
  rw [put_at, if_neg (by omega)]
  exact H i x hi hx
theorem LZ_up {m l : Nat} {v : Int32} {h : Nat → Nat → Int32} (H : LZ h) (hm : m < 12) (h1 : 1 ≤ l) (hl : l ≤ 12) : LZ (mvPut h 79 (m * 13 + l) v) :=
  ⟨fun x hx => by rw [put_at, if_neg (by omega)]; exact H.1 x hx, fun x hx => by rw [put_at, if_neg (by omega)]; exact H.2 x hx⟩
theorem l_plan1 (hg : ∀ i, i < 12 → -99 ≤ g i ∧ g i ≤ 99) {gap k m j : Nat} (hgap : gap ≤ 11) (hk : k ≤ 12) (hm : m + j = 11) (n : Nat) : ∀ (l : Nat) (h : Nat → Nat → Int32) (y : Value), mvIsL y = false → 1 ≤ l → l + n = k + 1 → (∀ i, i < 12 → h 32 i = iI (g i)) → TL g gap k j h → LZ h → (∀ x, x < l → h 79 (m * 13 + x) = iI (lW g gap (j + 1) x)) → ∃ h' y', mvIsL y' = false ∧ CF [79] h h' ∧ LZ h' ∧ TL g gap k (j + 1) h' ∧ ∀ r, avA 2 165 69 [.ref 78, .ref 32, .int (nI k), .int (nI gap), .int (nI m), .int (nI (k + 1)), y'] [] (sX L t lt rt rp sw h' gl) r → avA 2 165 12 [.ref 78, .ref 32, .int (nI k), .int (nI gap), .int (nI m), .int (nI l), y] [] (sX L t lt rt rp sw h gl) r := by
  induction n with
  | zero =>
    intro l h y hy h1 hl G T Z X
    have e : l = k + 1 := by omega
    subst e
    refine ⟨h, y, hy, CF_refl, Z, fun i x hi hx => ?_, fun r Q => ?_⟩
    · by_cases c : i ≤ j
      · exact T i x c hx
      · have e : i = j + 1 := by omega
        subst e
        rw [show 12 - (j + 1) = m by omega]
        exact X x (by omega)
    · refine a_iload_5 rfl rfl ?_
      refine a_iload_2 rfl rfl ?_
      refine a_cmpN_gt rfl rfl rfl (by omega) (by omega) (fun _ => ?_) (fun c_15 => False.elim (by omega))
      exact Q
  | succ n ih =>
    intro l h y hy h1 hl G T Z X
    obtain ⟨l, rfl⟩ : ∃ q, l = q + 1 := ⟨l - 1, by omega⟩
    have w1 := lW_b (gap := gap) hg 12 j (l + 1) (by omega) (by omega)
    have w2 := lW_b (gap := gap) hg 12 (j - gap) l (by omega) (by omega)
    have w3 := hg m (by omega)
    have t1 : h 79 ((m + 1) * 13 + (l + 1)) = iI (lW g gap j (l + 1)) := by rw [show m + 1 = 12 - j by omega]; exact T j (l + 1) (by omega) (by omega)
    have t2 : h 79 (min 12 (m + gap + 1) * 13 + l) = iI (lW g gap (j - gap) l) := by rw [show min 12 (m + gap + 1) = 12 - (j - gap) by omega]; exact T (j - gap) l (by omega) (by omega)
    have C := e_worthWith (L := L) (t := t) (lt := lt) (rt := rt) (rp := rp) (sw := sw) (gl := gl) hgap (by omega) (by omega) (G m (by omega)) t2
    have ws := lW_s g gap j l
    rw [show 11 - j = m by omega] at ws
    obtain ⟨h', y', a1, a2, a3, a4, Q'⟩ := ih (l + 1 + 1) (mvPut h 79 (m * 13 + (l + 1)) (iI (max (lW g gap j (l + 1)) (g m * 16 - 1 + lW g gap (j - gap) l)))) (.int (iI (lW g gap j (l + 1)))) rfl (by omega) (by omega) G (TL_up T hm (by omega) hk) (LZ_up Z (by omega) (by omega) (by omega)) (fun x hx => by
      rw [put_at]
      by_cases c : x = l + 1
      · subst c
        rw [if_pos ⟨rfl, rfl⟩, ws]
      · rw [if_neg (by omega)]
        exact X x (by omega))
    refine ⟨h', y', a1, CF_trans (CF_put CF_refl rfl) a2, a3, a4, fun r Q0 => ?_⟩
    have Q := Q' r Q0
    refine a_iload_5 rfl rfl ?_
    refine a_iload_2 rfl rfl ?_
    refine a_cmpN_gt rfl rfl rfl (by omega) (by omega) (fun c_15 => False.elim (by omega)) (fun _ => ?_)
    refine a_aload_0 rfl rfl ?_
    refine a_getr rfl rfl rfl (fun _ _ _ => rfl) rfl ?_
    refine a_iload_4 rfl rfl ?_
    refine a_iconst (v := (nI 1)) rfl rfl rfl ?_
    refine a_iaddN rfl rfl ?_
    refine a_bipush (v := (nI 13)) rfl rfl rfl ?_
    refine a_imulN rfl rfl ?_
    refine a_iload_5 rfl rfl ?_
    refine a_iaddN rfl rfl ?_
    refine a_iald rfl rfl (Or.inl rfl) rfl (by omega) (by decide) ?_
    refine a_as (y := iI (lW g gap j (l + 1))) t1 ?_
    refine a_istore_6 rfl rfl rfl ?_
    refine a_aload_0 rfl rfl ?_
    refine a_getr rfl rfl rfl (fun _ _ _ => rfl) rfl ?_
    refine a_iload_4 rfl rfl ?_
    refine a_bipush (v := (nI 13)) rfl rfl rfl ?_
    refine a_imulN rfl rfl ?_
    refine a_iload_5 rfl rfl ?_
    refine a_iaddN rfl rfl ?_
    refine a_iload_6 rfl rfl ?_
    refine a_aload_0 rfl rfl ?_
    refine a_aload_1 rfl rfl ?_
    refine a_iload_4 rfl rfl ?_
    refine a_iload_5 rfl rfl ?_
    refine a_iload_3 rfl rfl ?_
    refine a_virtI rfl rfl (C) (Nat.le_of_ble_eq_true rfl) ⟨rfl, rfl, rfl, rfl⟩ rfl rfl rfl (Nat.le_of_ble_eq_true rfl) rfl rfl ?_
    refine a_maxZ rfl rfl (Nat.le_of_ble_eq_true rfl) (by omega) (by omega) ?_
    refine a_iast rfl rfl rfl rfl (by omega) (by decide) ?_
    refine a_iinc_5 rfl rfl (nI_inc _ _) rfl ?_
    refine a_goto rfl rfl ?_
    exact Q
theorem l_plan2 (hg : ∀ i, i < 12 → -99 ≤ g i ∧ g i ≤ 99) {gap k : Nat} (hgap : gap ≤ 11) (hk : k ≤ 12) (m : Nat) : ∀ (j : Nat) (h : Nat → Nat → Int32) (y5 y6 : Value), mvIsL y5 = false → mvIsL y6 = false → m + j = 11 → (∀ i, i < 12 → h 32 i = iI (g i)) → TL g gap k j h → LZ h → ∃ h' y5' y6', mvIsL y5' = false ∧ mvIsL y6' = false ∧ CF [79] h h' ∧ LZ h' ∧ TL g gap k 12 h' ∧ ∀ r, avA 2 165 75 [.ref 78, .ref 32, .int (nI k), .int (nI gap), .int (-1), y5', y6'] [] (sX L t lt rt rp sw h' gl) r → avA 2 165 4 [.ref 78, .ref 32, .int (nI k), .int (nI gap), .int (nI m), y5, y6] [] (sX L t lt rt rp sw h gl) r := by
  induction m with
  | zero =>
    intro j h y5 y6 hy5 hy6 hj G T Z
    have e : j = 11 := by omega
    subst e
    obtain ⟨h', y', a1, a2, a3, a4, Q⟩ := l_plan1 (L := L) (t := t) (lt := lt) (rt := rt) (rp := rp) (sw := sw) (gl := gl) hg hgap hk (m := 0) (j := 11) (by omega) k 1 h y6 hy6 (by omega) (by omega) G T Z (fun x hx => by
      have : x = 0 := by omega
      subst this
      rw [lW_0]
      exact Z.1 0 (by omega))
    refine ⟨h', .int (nI (k + 1)), y', rfl, a1, a2, a3, a4, fun r Q0 => ?_⟩
    have Q9 := Q r (a_iinc_4 (v := -1) rfl rfl (by decide) rfl (a_goto rfl rfl (a_iload_4 rfl rfl (a_ifI_lt rfl rfl rfl rfl (fun _ => Q0) (fun c => absurd (by decide) c)))))
    refine a_iload_4 rfl rfl ?_
    refine a_ifN_lt rfl rfl rfl (by omega) (fun c_6 => absurd c_6 (by decide)) (fun _ => ?_)
    refine a_iconst (v := (nI 1)) rfl rfl rfl ?_
    refine a_istore_5 rfl rfl rfl ?_
    exact Q9
  | succ m ih =>
    intro j h y5 y6 hy5 hy6 hj G T Z
    obtain ⟨h1, y', a1, a2, a3, a4, Q1⟩ := l_plan1 (L := L) (t := t) (lt := lt) (rt := rt) (rp := rp) (sw := sw) (gl := gl) hg hgap hk (m := m + 1) (j := j) (by omega) k 1 h y6 hy6 (by omega) (by omega) G T Z (fun x hx => by
      have : x = 0 := by omega
      subst this
      rw [lW_0]
      exact Z.1 (m + 1) (by omega))
    obtain ⟨h', z5, z6, b1, b2, b3, b4, b5, Q2⟩ := ih (j + 1) h1 (.int (nI (k + 1))) y' rfl a1 (by omega) (by rw [a2 32 rfl]; exact G) a4 a3
    refine ⟨h', z5, z6, b1, b2, CF_trans a2 b3, b4, b5, fun r Q0 => ?_⟩
    have Q9 := Q1 r (a_iinc_4 rfl rfl (nI_dec _ 1 (by omega)) rfl (a_goto rfl rfl (Q2 r Q0)))
    refine a_iload_4 rfl rfl ?_
    refine a_ifN_lt rfl rfl rfl (by omega) (fun c_6 => False.elim (by omega)) (fun _ => ?_)
    refine a_iconst (v := (nI 1)) rfl rfl rfl ?_
    refine a_istore_5 rfl rfl rfl ?_
    exact Q9
end LE
