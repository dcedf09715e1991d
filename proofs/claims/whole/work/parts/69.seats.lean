/-! SEATS: the reference's whole, and both -/
section RT
variable {L t : Nat} {lt rt rp : Option Nat} {sw : Bool} {gl : Nat → Nat → Int64}
theorem l_si (p : Nat → Bool) (n : Nat) (z x : Int32) (y5 y6 : Value) (m : Nat) : ∀ (i : Nat) (h : Nat → Nat → Int32), i + m = 64 → rR 95 97 (rS p 0) i h → ∃ h', CF [95, 97] h h' ∧ rR 95 97 (rS p 0) 64 h' ∧ ∀ r, avA 8 307 68 [.ref 81, .int (nI n), .int z, .int x, .int (nI 64), y5, y6] [] (sX L t lt rt rp sw h' gl) r → avA 8 307 21 [.ref 81, .int (nI n), .int z, .int x, .int (nI i), y5, y6] [] (sX L t lt rt rp sw h gl) r := by
  induction m with
  | zero =>
    intro i h hi W
    have e : i = 64 := by omega
    subst e
    refine ⟨h, CF_refl, W, fun r Z => ?_⟩
    refine a_iload_4 rfl rfl ?_
    refine a_bipush (v := (nI 64)) rfl rfl rfl ?_
    refine a_cmpN_ge rfl rfl rfl (by omega) (by omega) (fun _ => ?_) (fun c_25 => absurd c_25 (by decide))
    exact Z
  | succ m ih =>
    intro i h hi W
    by_cases d : i = 0
    · subst d
      obtain ⟨h', c, q, Z'⟩ := ih 1 (mvPut (mvPut h 95 0 (nI 0)) 97 0 (nI 1)) (by omega) (fun k hk => by
        have : k = 0 := by omega
        subst this
        exact ⟨rfl, rfl⟩)
      refine ⟨h', CF_trans (CF_put (CF_put CF_refl rfl) rfl) c, q, fun r Z0 => ?_⟩
      have Z := Z' r Z0
      refine a_iload_4 rfl rfl ?_
      refine a_bipush (v := (nI 64)) rfl rfl rfl ?_
      refine a_cmpN_ge rfl rfl rfl (by omega) (by omega) (fun c_25 => absurd c_25 (by decide)) (fun _ => ?_)
      refine a_aload_0 rfl rfl ?_
      refine a_getr rfl rfl rfl (fun _ _ _ => rfl) rfl ?_
      refine a_iload_4 rfl rfl ?_
      refine a_iload_4 rfl rfl ?_
      refine a_ifN_ne rfl rfl rfl (by omega) (fun c_36 => absurd c_36 (by decide)) (fun _ => ?_)
      refine a_iconst (v := (nI 0)) rfl rfl rfl ?_
      refine a_goto rfl rfl ?_
      refine a_iast rfl rfl rfl rfl (by omega) (by decide) ?_
      refine a_aload_0 rfl rfl ?_
      refine a_getr rfl rfl rfl (fun _ _ _ => rfl) rfl ?_
      refine a_iload_4 rfl rfl ?_
      refine a_iload_4 rfl rfl ?_
      refine a_ifN_ne rfl rfl rfl (by omega) (fun c_53 => absurd c_53 (by decide)) (fun _ => ?_)
      refine a_iconst (v := (nI 1)) rfl rfl rfl ?_
      refine a_goto rfl rfl ?_
      refine a_iast rfl rfl rfl rfl (by omega) (by decide) ?_
      refine a_iinc_4 (v := (nI 1)) rfl rfl (by decide) rfl ?_
      refine a_goto rfl rfl ?_
      exact Z
    · obtain ⟨h', c, q, Z'⟩ := ih (i + 1) (mvPut (mvPut h 95 i (-1)) 97 i (nI 0)) (by omega) (fun k hk => by
        rw [put_at, put_at, put_at, put_at]
        by_cases e : k = i
        · subst e
          rw [rS, if_neg d]
          simp
          rfl
        · simp [e]
          exact W k (by omega))
      refine ⟨h', CF_trans (CF_put (CF_put CF_refl rfl) rfl) c, q, fun r Z0 => ?_⟩
      have Z := Z' r Z0
      refine a_iload_4 rfl rfl ?_
      refine a_bipush (v := (nI 64)) rfl rfl rfl ?_
      refine a_cmpN_ge rfl rfl rfl (by omega) (by omega) (fun c_25 => False.elim (by omega)) (fun _ => ?_)
      refine a_aload_0 rfl rfl ?_
      refine a_getr rfl rfl rfl (fun _ _ _ => rfl) rfl ?_
      refine a_iload_4 rfl rfl ?_
      refine a_iload_4 rfl rfl ?_
      refine a_ifN_ne rfl rfl rfl (by omega) (fun _ => ?_) (fun c_36 => False.elim (by omega))
      refine a_iconst (v := (-1)) rfl rfl rfl ?_
      refine a_iast rfl rfl rfl rfl (by omega) (by decide) ?_
      refine a_aload_0 rfl rfl ?_
      refine a_getr rfl rfl rfl (fun _ _ _ => rfl) rfl ?_
      refine a_iload_4 rfl rfl ?_
      refine a_iload_4 rfl rfl ?_
      refine a_ifN_ne rfl rfl rfl (by omega) (fun _ => ?_) (fun c_53 => False.elim (by omega))
      refine a_iconst (v := (nI 0)) rfl rfl rfl ?_
      refine a_iast rfl rfl rfl rfl (by omega) (by decide) ?_
      refine a_iinc_4 rfl rfl (nI_inc _ _) rfl ?_
      refine a_goto rfl rfl ?_
      exact Z
theorem l_sc (F : Nat → Nat × Nat) (n : Nat) (z x : Int32) (q : Nat) (y6 : Value) (m : Nat) : ∀ (i : Nat) (h : Nat → Nat → Int32), i + m = 64 → rR 94 96 F 64 h → rR 95 97 F i h → ∃ h', CF [95, 97] h h' ∧ rR 95 97 F 64 h' ∧ ∀ r, avA 8 307 135 [.ref 81, .int (nI n), .int z, .int x, .int (nI q), .int (nI 64), y6] [] (sX L t lt rt rp sw h' gl) r → avA 8 307 94 [.ref 81, .int (nI n), .int z, .int x, .int (nI q), .int (nI i), y6] [] (sX L t lt rt rp sw h gl) r := by
  induction m with
  | zero =>
    intro i h hi V W
    have e : i = 64 := by omega
    subst e
    refine ⟨h, CF_refl, W, fun r Z => ?_⟩
    refine a_iload_5 rfl rfl ?_
    refine a_bipush (v := (nI 64)) rfl rfl rfl ?_
    refine a_cmpN_ge rfl rfl rfl (by omega) (by omega) (fun _ => ?_) (fun c_98 => absurd c_98 (by decide))
    exact Z
  | succ m ih =>
    intro i h hi V W
    obtain ⟨h', c, g, Z'⟩ := ih (i + 1) (mvPut (mvPut h 95 i (h 94 i)) 97 i (h 96 i)) (by omega) V (fun k hk => by
      rw [put_at, put_at, put_at, put_at]
      by_cases e : k = i
      · subst e
        simp
        exact V k (by omega)
      · simp [e]
        exact W k (by omega))
    refine ⟨h', CF_trans (CF_put (CF_put CF_refl rfl) rfl) c, g, fun r Z0 => ?_⟩
    have Z := Z' r Z0
    refine a_iload_5 rfl rfl ?_
    refine a_bipush (v := (nI 64)) rfl rfl rfl ?_
    refine a_cmpN_ge rfl rfl rfl (by omega) (by omega) (fun c_98 => False.elim (by omega)) (fun _ => ?_)
    refine a_aload_0 rfl rfl ?_
    refine a_getr rfl rfl rfl (fun _ _ _ => rfl) rfl ?_
    refine a_iload_5 rfl rfl ?_
    refine a_aload_0 rfl rfl ?_
    refine a_getr rfl rfl rfl (fun _ _ _ => rfl) rfl ?_
    refine a_iload_5 rfl rfl ?_
    refine a_iald rfl rfl (Or.inl rfl) rfl (by omega) (by decide) ?_
    refine a_iast rfl rfl rfl rfl (by omega) (by decide) ?_
    refine a_aload_0 rfl rfl ?_
    refine a_getr rfl rfl rfl (fun _ _ _ => rfl) rfl ?_
    refine a_iload_5 rfl rfl ?_
    refine a_aload_0 rfl rfl ?_
    refine a_getr rfl rfl rfl (fun _ _ _ => rfl) rfl ?_
    refine a_iload_5 rfl rfl ?_
    refine a_iald rfl rfl (Or.inl rfl) rfl (by omega) (by decide) ?_
    refine a_iast rfl rfl rfl rfl (by omega) (by decide) ?_
    refine a_iinc_5 rfl rfl (nI_inc _ _) rfl ?_
    refine a_goto rfl rfl ?_
    exact Z
theorem l_sr (p : Nat → Bool) (n : Nat) (z : Int32) (y6 : Value) (m : Nat) : ∀ (q : Nat) (h : Nat → Nat → Int32) (y5 : Value), mvIsL y5 = false → q + m = 5 → rR 95 97 (rS p q) 64 h → ∃ h' y', mvIsL y' = false ∧ CF [94, 95, 96, 97] h h' ∧ rR 95 97 (rS p 5) 64 h' ∧ ∀ r, avA 8 307 141 [.ref 81, .int (nI n), .int z, .int (bsI 30 p), .int (nI 5), y', y6] [] (sX L t lt rt rp sw h' gl) r → avA 8 307 71 [.ref 81, .int (nI n), .int z, .int (bsI 30 p), .int (nI q), y5, y6] [] (sX L t lt rt rp sw h gl) r := by
  induction m with
  | zero =>
    intro q h y5 hy hq W
    have e : q = 5 := by omega
    subst e
    refine ⟨h, y5, hy, CF_refl, W, fun r Z => ?_⟩
    refine a_iload_4 rfl rfl ?_
    refine a_iconst (v := (nI 5)) rfl rfl rfl ?_
    refine a_cmpN_ge rfl rfl rfl (by omega) (by omega) (fun _ => ?_) (fun c_74 => absurd c_74 (by decide))
    exact Z
  | succ m ih =>
    intro q h y5 hy hq W
    obtain ⟨h1, C1, c1, W1⟩ := r_addRow (L := L) (t := t) (lt := lt) (rt := rt) (rp := rp) (sw := sw) (gl := gl) p q (by omega) W
    obtain ⟨h2, c2, W2, Z2⟩ := l_sc (L := L) (t := t) (lt := lt) (rt := rt) (rp := rp) (sw := sw) (gl := gl) (rS p (q + 1)) n z (bsI 30 p) q y6 64 0 h1 rfl W1 (fun k hk => absurd hk (by omega))
    obtain ⟨h', y', g1, g2, g3, Z3⟩ := ih (q + 1) h2 (.int (nI 64)) rfl (by omega) W2
    refine ⟨h', y', g1, CF_trans (CF_mono (by decide) c1) (CF_trans (CF_mono (by decide) c2) g2), g3, fun r Z0 => ?_⟩
    have Z := Z2 r (a_iinc_4 rfl rfl (nI_inc _ _) rfl (a_goto rfl rfl (Z3 r Z0)))
    refine a_iload_4 rfl rfl ?_
    refine a_iconst (v := (nI 5)) rfl rfl rfl ?_
    refine a_cmpN_ge rfl rfl rfl (by omega) (by omega) (fun c_74 => False.elim (by omega)) (fun _ => ?_)
    refine a_aload_0 rfl rfl ?_
    refine a_iload_3 rfl rfl ?_
    refine a_bipush (v := (nI 6)) rfl rfl rfl ?_
    refine a_iload_4 rfl rfl ?_
    refine a_imulN rfl rfl ?_
    refine a_ishr rfl rfl ?_
    refine a_bipush (v := (nI 63)) rfl rfl rfl ?_
    refine a_iand rfl rfl ?_
    refine a_as (y := bsI 6 (fun j => p (6 * q + j))) (s_row p q (by omega)) ?_
    refine a_virt0 rfl rfl (C1) (Nat.le_of_ble_eq_true rfl) ⟨rfl, rfl, rfl, rfl⟩ rfl rfl rfl (Nat.le_of_ble_eq_true rfl) rfl rfl ?_
    refine a_iconst (v := (nI 0)) rfl rfl rfl ?_
    refine a_istore_5 rfl rfl rfl ?_
    exact Z
theorem l_sm (F : Nat → Nat × Nat) (f1 : ∀ k, k < 64 → (F k).1 ≤ 31) {h : Nat → Nat → Int32} (W : rR 95 97 F 64 h) (n : Nat) (z x : Int32) (y6 : Value) {r : Option Value × mvSt} (Z : avA 8 307 186 [.ref 81, .int (nI n), .int z, .int x, .int (nI ((wP F 64).1 - 1)), .int (nI 64), y6] [] (sX L t lt rt rp sw h gl) r) (m : Nat) : ∀ i, i + m = 64 → avA 8 307 147 [.ref 81, .int (nI n), .int z, .int x, .int (nI ((wP F i).1 - 1)), .int (nI i), y6] [] (sX L t lt rt rp sw h gl) r := by
  induction m with
  | zero =>
    intro i hi
    have e : i = 64 := by omega
    subst e
    refine a_iload_5 rfl rfl ?_
    refine a_bipush (v := (nI 64)) rfl rfl rfl ?_
    refine a_cmpN_ge rfl rfl rfl (by omega) (by omega) (fun _ => ?_) (fun c_151 => absurd c_151 (by decide))
    exact Z
  | succ m ih =>
    intro i hi
    obtain ⟨e1, e2⟩ := W i (by omega)
    have b1 := f1 i (by omega)
    have b2 := wP_1 (F := F) (n := i) (b := 31) (fun k hk => f1 k (by omega))
    have Z := ih (i + 1) (by omega)
    have s : (wP F (i + 1)).1 = max (wP F i).1 (F i).1 := by rw [wP, wA_1]
    by_cases k : (wP F i).1 - 1 < (F i).1 - 1
    · have e1' : h 95 i = nI ((F i).1 - 1) := by rw [e1, ← iI_nat]; congr 1; omega
      rw [s, show max (wP F i).1 (F i).1 - 1 = (F i).1 - 1 by omega] at Z
      refine a_iload_5 rfl rfl ?_
      refine a_bipush (v := (nI 64)) rfl rfl rfl ?_
      refine a_cmpN_ge rfl rfl rfl (by omega) (by omega) (fun c_151 => False.elim (by omega)) (fun _ => ?_)
      refine a_aload_0 rfl rfl ?_
      refine a_getr rfl rfl rfl (fun _ _ _ => rfl) rfl ?_
      refine a_iload_5 rfl rfl ?_
      refine a_iald rfl rfl (Or.inl rfl) rfl (by omega) (by decide) ?_
      refine a_as (y := nI ((F i).1 - 1)) e1' ?_
      refine a_iload_4 rfl rfl ?_
      refine a_cmpN_le rfl rfl rfl (by omega) (by omega) (fun c_163 => False.elim (by omega)) (fun _ => ?_)
      refine a_aload_0 rfl rfl ?_
      refine a_getr rfl rfl rfl (fun _ _ _ => rfl) rfl ?_
      refine a_iload_5 rfl rfl ?_
      refine a_iald rfl rfl (Or.inl rfl) rfl (by omega) (by decide) ?_
      refine a_as (y := nI ((F i).1 - 1)) e1' ?_
      refine a_goto rfl rfl ?_
      refine a_istore_4 rfl rfl rfl ?_
      refine a_iinc_5 rfl rfl (nI_inc _ _) rfl ?_
      refine a_goto rfl rfl ?_
      exact Z
    · rw [s, show max (wP F i).1 (F i).1 - 1 = (wP F i).1 - 1 by omega] at Z
      refine a_iload_5 rfl rfl ?_
      refine a_bipush (v := (nI 64)) rfl rfl rfl ?_
      refine a_cmpN_ge rfl rfl rfl (by omega) (by omega) (fun c_151 => False.elim (by omega)) (fun _ => ?_)
      refine a_aload_0 rfl rfl ?_
      refine a_getr rfl rfl rfl (fun _ _ _ => rfl) rfl ?_
      refine a_iload_5 rfl rfl ?_
      refine a_iald rfl rfl (Or.inl rfl) rfl (by omega) (by decide) ?_
      refine a_as (y := iI (((F i).1 : Int) - 1)) e1 ?_
      refine a_iload_4 rfl rfl ?_
      refine a_cmpI_le rfl rfl rfl (iI_toInt (by omega) (by omega)) (nI_toInt (by omega)) (fun _ => ?_) (fun c_163 => False.elim (by omega))
      refine a_iload_4 rfl rfl ?_
      refine a_istore_4 rfl rfl rfl ?_
      refine a_iinc_5 rfl rfl (nI_inc _ _) rfl ?_
      refine a_goto rfl rfl ?_
      exact Z
theorem l_sw (F : Nat → Nat × Nat) (f1 : ∀ k, k < 64 → (F k).1 ≤ 31) {h : Nat → Nat → Int32} (W : rR 95 97 F 64 h) (n T : Nat) (hT : T ≤ 40) (z x : Int32) {r : Option Value × mvSt} (Z : avA 8 307 233 [.ref 81, .int (nI n), .int z, .int x, .int (nI T), .int (nI (wC F (T + 1) 64)), .int (nI 64)] [] (sX L t lt rt rp sw h gl) r) (m : Nat) : ∀ i, i + m = 64 → avA 8 307 192 [.ref 81, .int (nI n), .int z, .int x, .int (nI T), .int (nI (wC F (T + 1) i)), .int (nI i)] [] (sX L t lt rt rp sw h gl) r := by
  induction m with
  | zero =>
    intro i hi
    have e : i = 64 := by omega
    subst e
    refine a_iload_6 rfl rfl ?_
    refine a_bipush (v := (nI 64)) rfl rfl rfl ?_
    refine a_cmpN_ge rfl rfl rfl (by omega) (by omega) (fun _ => ?_) (fun c_196 => absurd c_196 (by decide))
    exact Z
  | succ m ih =>
    intro i hi
    obtain ⟨e1, e2⟩ := W i (by omega)
    have b1 := f1 i (by omega)
    have Z := ih (i + 1) (by omega)
    rw [wC] at Z
    by_cases k : (F i).1 = T + 1
    · rw [if_pos k] at Z
      refine a_iload_6 rfl rfl ?_
      refine a_bipush (v := (nI 64)) rfl rfl rfl ?_
      refine a_cmpN_ge rfl rfl rfl (by omega) (by omega) (fun c_196 => False.elim (by omega)) (fun _ => ?_)
      refine a_iload_5 rfl rfl ?_
      refine a_aload_0 rfl rfl ?_
      refine a_getr rfl rfl rfl (fun _ _ _ => rfl) rfl ?_
      refine a_iload_6 rfl rfl ?_
      refine a_iald rfl rfl (Or.inl rfl) rfl (by omega) (by decide) ?_
      refine a_as (y := iI (((F i).1 : Int) - 1)) e1 ?_
      refine a_iload_4 rfl rfl ?_
      refine a_cmpI_ne rfl rfl rfl (iI_toInt (by omega) (by omega)) (nI_toInt (by omega)) (fun c_210 => False.elim (by omega)) (fun _ => ?_)
      refine a_aload_0 rfl rfl ?_
      refine a_getr rfl rfl rfl (fun _ _ _ => rfl) rfl ?_
      refine a_iload_6 rfl rfl ?_
      refine a_iald rfl rfl (Or.inl rfl) rfl (by omega) (by decide) ?_
      refine a_as (y := nI ((F i).2)) e2 ?_
      refine a_goto rfl rfl ?_
      refine a_iaddN rfl rfl ?_
      refine a_istore_5 rfl rfl rfl ?_
      refine a_iinc_6 rfl rfl (nI_inc _ _) rfl ?_
      refine a_goto rfl rfl ?_
      exact Z
    · rw [if_neg k] at Z
      refine a_iload_6 rfl rfl ?_
      refine a_bipush (v := (nI 64)) rfl rfl rfl ?_
      refine a_cmpN_ge rfl rfl rfl (by omega) (by omega) (fun c_196 => False.elim (by omega)) (fun _ => ?_)
      refine a_iload_5 rfl rfl ?_
      refine a_aload_0 rfl rfl ?_
      refine a_getr rfl rfl rfl (fun _ _ _ => rfl) rfl ?_
      refine a_iload_6 rfl rfl ?_
      refine a_iald rfl rfl (Or.inl rfl) rfl (by omega) (by decide) ?_
      refine a_as (y := iI (((F i).1 : Int) - 1)) e1 ?_
      refine a_iload_4 rfl rfl ?_
      refine a_cmpI_ne rfl rfl rfl (iI_toInt (by omega) (by omega)) (nI_toInt (by omega)) (fun _ => ?_) (fun c_210 => False.elim (by omega))
      refine a_iconst (v := (nI 0)) rfl rfl rfl ?_
      refine a_iaddN rfl rfl ?_
      refine a_istore_5 rfl rfl rfl ?_
      refine a_iinc_6 rfl rfl (nI_inc _ _) rfl ?_
      refine a_goto rfl rfl ?_
      exact Z
end RT
section SP
variable {A B : Nat → Int32} {TX : Nat → Txt}
def stV (p : Nat → Bool) (z : Int32) : Int32 := if z = 0 then nI ((wP (gS p 30) 64).1 - 1) else nI (wP (gS p 30) 64).2
theorem p_seats (hA : okA A) (v z : Int32) : ∃ r, opP 1 5 152 [.ref 7, .int v, .int z] 8 307 [.ref 81, .int v, .int z] TX A B r A B := by
  by_cases hv : 0 ≤ v.toInt ∧ v.toInt ≤ 15
  · obtain ⟨n, hn, rfl, _⟩ := cell_of (x := v) (m := 16) hv.1 (by omega)
    refine ⟨stV (liB A (lnA TX A) n) z, ?_, ?_, hA, rfl⟩
    · intro L t lt rt rp sw h gl R H hR
      obtain ⟨h1, R1, C1, c1, W1, H1, r1, r2⟩ := C_lookNow (L := L) (rt := rt) (rp := rp) (sw := sw) (gl := gl) H hR
      obtain ⟨h2, C2, c2, W2⟩ := e_litCells (L := L) (rt := rt) (rp := rp) (sw := sw) (gl := gl) n (by omega) W1
      obtain ⟨h3, sw', C3, c3, k1, k2⟩ := e_seat (L := L) (t := t) (lt := rlO A) (rt := rt) (rp := rp) (gl := gl) (liB A (lnA TX A) n) (sw := sw) (h := h2)
      have H2 := CI_law H1 rfl rfl rfl c2 (LW_LI H1 W2)
      refine ⟨h3, rlO A, R1, sw', ?_, CF_trans (CF_trans (CF_cl rfl c1) (CF_cl rfl c2)) (CF_cl rfl c3), CI_cf H2 rfl rfl rfl rfl c3, r1, r2⟩
      by_cases q : z = 0
      · unfold stV
        rw [if_pos q]
        show avA _ 152 0 [.ref 7, .int (nI (n)), .int (z)] [] _ _
        refine a_iload_1 rfl rfl ?_
        refine a_bipush (v := (nI 15)) rfl rfl rfl ?_
        refine a_statI rfl rfl (e_isWithin (nI n) 15 (by omega)) (Nat.le_of_ble_eq_true rfl) ⟨rfl, rfl, rfl⟩ rfl rfl rfl (Nat.le_of_ble_eq_true rfl) rfl ?_
        refine a_ifb_ne rfl rfl rfl (fun _ => ?_) (fun c_6 => by first | exact absurd hv c_6 | exact absurd c_6 hv)
        refine a_aload_0 rfl rfl ?_
        refine a_virt0 rfl rfl (C1) (Nat.le_of_ble_eq_true rfl) ⟨rfl, rfl, rfl, rfl⟩ rfl rfl rfl (Nat.le_of_ble_eq_true rfl) rfl rfl ?_
        refine a_aload_0 rfl rfl ?_
        refine a_getr rfl rfl rfl (fun _ _ _ => rfl) rfl ?_
        refine a_aload_0 rfl rfl ?_
        refine a_getr rfl rfl rfl (fun _ _ _ => rfl) rfl ?_
        refine a_iload_1 rfl rfl ?_
        refine a_virtI rfl rfl (C2) (Nat.le_of_ble_eq_true rfl) ⟨rfl, rfl, rfl, rfl⟩ rfl rfl rfl (Nat.le_of_ble_eq_true rfl) rfl rfl ?_
        refine a_virt0 rfl rfl (C3) (Nat.le_of_ble_eq_true rfl) ⟨rfl, rfl, rfl, rfl⟩ rfl rfl rfl (Nat.le_of_ble_eq_true rfl) rfl rfl ?_
        refine a_iload_2 rfl rfl ?_
        refine a_if_eq rfl rfl rfl (fun _ => ?_) (fun c_31 => by first | exact absurd q c_31 | exact absurd c_31 q)
        refine a_aload_0 rfl rfl ?_
        refine a_getr rfl rfl rfl (fun _ _ _ => rfl) rfl ?_
        refine a_geti rfl rfl rfl (fun _ _ _ => rfl) ?_
        refine a_as (y := nI ((wP (gS (liB A (lnA TX A) n) 30) 64).1 - 1)) k1 ?_
        exact a_iret rfl rfl
      · unfold stV
        rw [if_neg q]
        show avA _ 152 0 [.ref 7, .int (nI (n)), .int (z)] [] _ _
        refine a_iload_1 rfl rfl ?_
        refine a_bipush (v := (nI 15)) rfl rfl rfl ?_
        refine a_statI rfl rfl (e_isWithin (nI n) 15 (by omega)) (Nat.le_of_ble_eq_true rfl) ⟨rfl, rfl, rfl⟩ rfl rfl rfl (Nat.le_of_ble_eq_true rfl) rfl ?_
        refine a_ifb_ne rfl rfl rfl (fun _ => ?_) (fun c_6 => by first | exact absurd hv c_6 | exact absurd c_6 hv)
        refine a_aload_0 rfl rfl ?_
        refine a_virt0 rfl rfl (C1) (Nat.le_of_ble_eq_true rfl) ⟨rfl, rfl, rfl, rfl⟩ rfl rfl rfl (Nat.le_of_ble_eq_true rfl) rfl rfl ?_
        refine a_aload_0 rfl rfl ?_
        refine a_getr rfl rfl rfl (fun _ _ _ => rfl) rfl ?_
        refine a_aload_0 rfl rfl ?_
        refine a_getr rfl rfl rfl (fun _ _ _ => rfl) rfl ?_
        refine a_iload_1 rfl rfl ?_
        refine a_virtI rfl rfl (C2) (Nat.le_of_ble_eq_true rfl) ⟨rfl, rfl, rfl, rfl⟩ rfl rfl rfl (Nat.le_of_ble_eq_true rfl) rfl rfl ?_
        refine a_virt0 rfl rfl (C3) (Nat.le_of_ble_eq_true rfl) ⟨rfl, rfl, rfl, rfl⟩ rfl rfl rfl (Nat.le_of_ble_eq_true rfl) rfl rfl ?_
        refine a_iload_2 rfl rfl ?_
        refine a_if_eq rfl rfl rfl (fun c_31 => by first | exact absurd c_31 q | exact absurd q c_31) (fun _ => ?_)
        refine a_aload_0 rfl rfl ?_
        refine a_getr rfl rfl rfl (fun _ _ _ => rfl) rfl ?_
        refine a_geti rfl rfl rfl (fun _ _ _ => rfl) ?_
        refine a_as (y := nI (wP (gS (liB A (lnA TX A) n) 30) 64).2) k2 ?_
        refine a_goto rfl rfl ?_
        exact a_iret rfl rfl
    · intro L t lt rt rp sw h gl ok H
      obtain ⟨h1, gl', C, c, H'⟩ := R_litBy (L := L) (t := t) (lt := lt) (rt := rt) (rp := rp) (sw := sw) (gl := gl) n (by omega) ok H
      generalize liB A (lnA TX A) n = p at C
      obtain ⟨h2, c2, W2, Z2⟩ := l_si (L := L) (t := t) (lt := lt) (rt := rt) (rp := rp) (sw := sw) (gl := gl') p n z (bsI 30 p) mvU mvU 64 0 h1 rfl (fun k hk => absurd hk (by omega))
      obtain ⟨h3, y', g1, c3, W3, Z3⟩ := l_sr (L := L) (t := t) (lt := lt) (rt := rt) (rp := rp) (sw := sw) (gl := gl') p n z mvU 5 0 h2 mvU rfl rfl W2
      have f1 : ∀ k, k < 64 → (rS p 5 k).1 ≤ 31 := fun k hk => by rw [rS_eq p 5 k hk]; exact Nat.le_trans (gS_1 _ _ _) (by omega)
      have fz : ∀ k, k < 64 → wz (rS p 5 k) := fun k hk => by rw [rS_eq p 5 k hk]; exact gS_z _ _ _
      have tp := wC_top (wz_P fz)
      have b1 := wP_1 (F := rS p 5) (n := 64) (b := 31) f1
      refine ⟨h3, gl', ?_, CF_trans (CF_rf rfl c) (CF_trans (CF_rf rfl c2) (CF_rf rfl c3)), fun j hj => by rw [c3 81 rfl, c2 81 rfl, c 81 rfl], RI_cf (RI_cf H' rfl c2) rfl c3⟩
      have Z6 : avA 8 307 233 [.ref 81, .int (nI n), .int z, .int (bsI 30 p), .int (nI ((wP (rS p 5) 64).1 - 1)), .int (nI (wC (rS p 5) ((wP (rS p 5) 64).1 - 1 + 1) 64)), .int (nI 64)] [] (sX L t lt rt rp sw h3 gl') (some (.int (stV p z)), sX L t lt rt rp sw h3 gl') := by
        rw [tp]
        unfold stV
        rw [gS_tot]
        by_cases q : z = 0
        · rw [if_pos q]
          refine a_iload_2 rfl rfl ?_
          refine a_if_eq rfl rfl rfl (fun _ => ?_) (fun c_234 => by first | exact absurd q c_234 | exact absurd c_234 q)
          refine a_iload_4 rfl rfl ?_
          exact a_iret rfl rfl
        · rw [if_neg q]
          refine a_iload_2 rfl rfl ?_
          refine a_if_eq rfl rfl rfl (fun c_234 => by first | exact absurd c_234 q | exact absurd q c_234) (fun _ => ?_)
          refine a_iload_5 rfl rfl ?_
          refine a_goto rfl rfl ?_
          exact a_iret rfl rfl
      have Z5 := l_sw (rS p 5) f1 W3 n ((wP (rS p 5) 64).1 - 1) (by omega) z (bsI 30 p) Z6 64 0 rfl
      have Z4 := l_sm (rS p 5) f1 W3 n z (bsI 30 p) mvU (a_iconst (v := nI 0) rfl rfl rfl (a_istore_5 rfl rfl rfl (a_iconst (v := nI 0) rfl rfl rfl (a_istore_6 rfl rfl rfl Z5)))) 64 0 rfl
      have Zr := Z2 _ (a_iconst (v := nI 0) rfl rfl rfl (a_istore_4 rfl rfl rfl (Z3 _ (a_iconst (v := nI 0) rfl rfl rfl (a_istore_4 rfl rfl rfl (a_iconst (v := nI 0) rfl rfl rfl (a_istore_5 rfl rfl rfl Z4)))))))
      show avA _ 307 0 [.ref 81, .int (nI (n)), .int (z), mvU, mvU, mvU, mvU] [] _ _
      refine a_iload_1 rfl rfl ?_
      refine a_iconst (v := (nI 0)) rfl rfl rfl ?_
      refine a_bipush (v := (nI 15)) rfl rfl rfl ?_
      refine a_statI rfl rfl (r_isIn0 (nI n) 0 15 (by omega) (by omega)) (Nat.le_of_ble_eq_true rfl) ⟨rfl, rfl, rfl⟩ rfl rfl rfl (Nat.le_of_ble_eq_true rfl) rfl ?_
      refine a_ifb_ne rfl rfl rfl (fun _ => ?_) (fun c_7 => by first | exact absurd hv c_7 | exact absurd c_7 hv)
      refine a_aload_0 rfl rfl ?_
      refine a_iload_1 rfl rfl ?_
      refine a_virtI rfl rfl (C) (Nat.le_of_ble_eq_true rfl) ⟨rfl, rfl, rfl, rfl⟩ rfl rfl rfl (Nat.le_of_ble_eq_true rfl) rfl rfl ?_
      refine a_istore_3 rfl rfl rfl ?_
      refine a_iconst (v := (nI 0)) rfl rfl rfl ?_
      refine a_istore_4 rfl rfl rfl ?_
      exact Zr
  · refine ⟨-1, ?_, ?_, hA, rfl⟩
    · intro L t lt rt rp sw h gl R H hR
      refine ⟨h, lt, R, sw, ?_, CF_refl, H, by omega, by omega⟩
      show avA _ 152 0 [.ref 7, .int (v), .int (z)] [] _ _
      refine a_iload_1 rfl rfl ?_
      refine a_bipush (v := (nI 15)) rfl rfl rfl ?_
      refine a_statI rfl rfl (e_isWithin v 15 (by omega)) (Nat.le_of_ble_eq_true rfl) ⟨rfl, rfl, rfl⟩ rfl rfl rfl (Nat.le_of_ble_eq_true rfl) rfl ?_
      refine a_ifb_ne rfl rfl rfl (fun c_6 => by first | exact absurd c_6 hv | exact absurd hv c_6) (fun _ => ?_)
      refine a_iconst (v := (-1)) rfl rfl rfl ?_
      exact a_iret rfl rfl
    · intro L t lt rt rp sw h gl ok H
      refine ⟨h, gl, ?_, CF_refl, fun _ _ => rfl, H⟩
      show avA _ 307 0 [.ref 81, .int (v), .int (z), mvU, mvU, mvU, mvU] [] _ _
      refine a_iload_1 rfl rfl ?_
      refine a_iconst (v := (nI 0)) rfl rfl rfl ?_
      refine a_bipush (v := (nI 15)) rfl rfl rfl ?_
      refine a_statI rfl rfl (r_isIn0 v 0 15 (by omega) (by omega)) (Nat.le_of_ble_eq_true rfl) ⟨rfl, rfl, rfl⟩ rfl rfl rfl (Nat.le_of_ble_eq_true rfl) rfl ?_
      refine a_ifb_ne rfl rfl rfl (fun c_7 => by first | exact absurd c_7 hv | exact absurd hv c_7) (fun _ => ?_)
      refine a_iconst (v := (-1)) rfl rfl rfl ?_
      exact a_iret rfl rfl
end SP
