/-! WHAT IS FORETOLD -/
def ftS (TX : Nat → Txt) : Nat → (Nat → Int32) → Nat → (Nat → Int32) × Nat
  | 0, A, k => (A, k)
  | n + 1, A, k => if gN A 8 = 9999 then ftS TX n A k else ftS TX n (psA false (flA TX A) A).1 (k + (psA false (flA TX A) A).2)
theorem k3A_hi {b : Nat} {B : Nat → Int32} {i : Nat} (hb : b < 5) (hi : 1696 ≤ i) : k3A b B i = B i := k3A_ne (by omega) (by omega) (by omega)
theorem lvR_hi {kf lf : (Nat → Int32) → Nat → Nat} {i : Nat} (hi : 1696 ≤ i) (j : Nat) : ∀ (b : Nat) (B : Nat → Int32) (kk : Nat), b + j ≤ 5 → (lvR false kf lf j b B kk).1 i = B i := by
  induction j with
  | zero => intro b B kk _; rfl
  | succ j ih =>
    intro b B kk hb
    rw [lvR, ih _ _ _ (by omega)]
    unfold lvA
    split
    · show k3A b (drA B) i = B i
      rw [k3A_hi (by omega) hi, drA_ne (by omega)]
    · unfold mdA
      rw [va_up_ne _ _ (by omega), drA_ne (by omega)]
theorem psA_hi {fl : Nat → Option (E1 → Int)} {A : Nat → Int32} (H : rOK A) {i : Nat} (hi : 1696 ≤ i) : (psA false fl A).1 i = A i := by
  rw [psA_ne (by omega)]
  unfold p2A
  rw [lvR_hi hi _ _ _ _ (by have := gN_le (m := 5) H (i := 0) (by omega) (by decide); omega), p1A_ne (by omega)]
theorem psA_n {wr : Bool} {fl : Nat → Option (E1 → Int)} {A : Nat → Int32} (H : rOK A) : (psA wr fl A).2 ≤ 5 := by
  have h0 := gN_le (m := 5) H (i := 0) (by omega) (by decide)
  have := lvR_le (wr := wr) (kf := kfA fl A) (lf := lfA fl A) (gN A 0) 0 (p1A fl A) 0
  show (p2A wr fl A).2 ≤ 5
  unfold p2A
  omega
section FT
variable {L t : Nat} {rt rp : Option Nat} {sw : Bool} {B A : Nat → Int32} {TX : Nat → Txt}
theorem ftS_ok (n : Nat) : ∀ (A : Nat → Int32) (k : Nat), rOK A → rOK (ftS TX n A k).1 ∧ mEq A (ftS TX n A k).1 ∧ (∀ i, 1696 ≤ i → (ftS TX n A k).1 i = A i) ∧ (ftS TX n A k).2 ≤ k + 5 * n := by
  induction n with
  | zero => intro A k H; exact ⟨H, mEq_refl, fun _ _ => rfl, by show k ≤ k + 5 * 0; omega⟩
  | succ n ih =>
    intro A k H
    have l8 := gN_le (m := 9999) H (i := 8) (by omega) (by decide)
    rw [ftS]
    split
    · obtain ⟨a, b, c, d⟩ := ih A k H
      exact ⟨a, b, c, by omega⟩
    · obtain ⟨a, b, c, d⟩ := ih _ (k + (psA false (flA TX A) A).2) (psA_OK (wr := false) (fl := flA TX A) H (by omega))
      have := psA_n (wr := false) (fl := flA TX A) H
      exact ⟨a, mEq_tr (mEq_ps H) b, fun i hi => (c i hi).trans (psA_hi H hi), by omega⟩
theorem l_cfore {gl : Nat → Nat → Int64} (w b : Int32) (n : Nat) (hn : n ≤ 60) (r : Int32) (j : Nat) : ∀ (i kk R : Nat) (D : Nat → Int32) (lt : Option Nat) (h : Nat → Nat → Int32), i + j = n → kk ≤ 5 * i → rOK D → mEq A D → MR 62 D h → BK false 62 D h → CI A B TX R t lt h → R + j < 67108864 → (∀ (h' : Nat → Nat → Int32) (lt' : Option Nat), MR 62 (ftS TX j D kk).1 h' → avA 6 129 86 [.ref 7, .int (nI n), .int w, .int b, .int (nI (ftS TX j D kk).2), .int (nI n)] [] (sX L t lt' rt rp sw h' gl) (some (.int r), sX L t lt' rt rp sw h' gl)) → ∃ h' lt' R', avA 6 129 54 [.ref 7, .int (nI n), .int w, .int b, .int (nI kk), .int (nI i)] [] (sX L t lt rt rp sw h gl) (some (.int r), sX L t lt' rt rp sw h' gl) ∧ CF clS h h' ∧ CI A B TX R' t lt' h' ∧ R ≤ R' ∧ R' ≤ R + j := by
  induction j with
  | zero =>
    intro i kk R D lt h hi hk rD eD M K H hR Z
    have e : i = n := by omega
    subst e
    refine ⟨h, lt, R, ?_, CF_refl, H, by omega, by omega⟩
    refine a_iload_5 rfl rfl ?_
    refine a_iload_1 rfl rfl ?_
    refine a_cmpN_ge rfl rfl rfl (by omega) (by omega) (fun _ => ?_) (fun c_57 => False.elim (by omega))
    exact Z h lt M
  | succ j ih =>
    intro i kk R D lt h hi hk rD eD M K H hR Z
    have l8 := gN_le (m := 9999) rD (i := 8) (by omega) (by decide)
    have e2 : h 62 2 = nI (gN D 8) := M.2.2.1.trans (gN_eq rD (by omega) (by decide))
    have Cr := e_ruling (L := L) (rt := rt) (rp := rp) (sw := sw) (gl := gl) H
    rw [ftS] at Z
    by_cases q : gN D 8 = 9999
    · rw [if_pos q] at Z
      have C2 := e_passHour_no_62 (L := L) (t := t) (lt := lt) (rt := rt) (rp := rp) (sw := sw) (h := h) (gl := gl) (rlO A) (by rw [e2, q])
      obtain ⟨h3, lt3, R3, A3, c3, H3, r3, r4⟩ := ih (i + 1) kk R D lt h (by omega) (by omega) rD eD M K H (by omega) Z
      refine ⟨h3, lt3, R3, ?_, c3, H3, by omega, by omega⟩
      cases hro : rlO A with
      | none =>
        rw [hro] at Cr C2
        refine a_iload_5 rfl rfl ?_
        refine a_iload_1 rfl rfl ?_
        refine a_cmpN_ge rfl rfl rfl (by omega) (by omega) (fun c_57 => False.elim (by omega)) (fun _ => ?_)
        refine a_iload_4 rfl rfl ?_
        refine a_aload_0 rfl rfl ?_
        refine a_getr rfl rfl rfl (fun _ _ _ => rfl) rfl ?_
        refine a_aload_0 rfl rfl ?_
        refine a_virtN rfl rfl (Cr) (Nat.le_of_ble_eq_true rfl) ⟨rfl, rfl, rfl, rfl⟩ rfl rfl rfl (Nat.le_of_ble_eq_true rfl) rfl rfl ?_
        refine a_aload_0 rfl rfl ?_
        refine a_getr rfl rfl rfl (fun _ _ _ => rfl) rfl ?_
        refine a_virtI rfl rfl (C2) (Nat.le_of_ble_eq_true rfl) ⟨rfl, rfl, rfl, rfl⟩ rfl rfl rfl (Nat.le_of_ble_eq_true rfl) rfl rfl ?_
        refine a_iaddN rfl rfl ?_
        refine a_as (y := nI (kk)) (congrArg nI (by omega)) ?_
        refine a_istore_4 rfl rfl rfl ?_
        refine a_iinc_5 rfl rfl (nI_inc _ _) rfl ?_
        refine a_goto rfl rfl ?_
        exact A3
      | some o =>
        rw [hro] at Cr C2
        refine a_iload_5 rfl rfl ?_
        refine a_iload_1 rfl rfl ?_
        refine a_cmpN_ge rfl rfl rfl (by omega) (by omega) (fun c_57 => False.elim (by omega)) (fun _ => ?_)
        refine a_iload_4 rfl rfl ?_
        refine a_aload_0 rfl rfl ?_
        refine a_getr rfl rfl rfl (fun _ _ _ => rfl) rfl ?_
        refine a_aload_0 rfl rfl ?_
        refine a_virtR rfl rfl (Cr) (Nat.le_of_ble_eq_true rfl) ⟨rfl, rfl, rfl, rfl⟩ rfl rfl rfl (Nat.le_of_ble_eq_true rfl) rfl rfl ?_
        refine a_aload_0 rfl rfl ?_
        refine a_getr rfl rfl rfl (fun _ _ _ => rfl) rfl ?_
        refine a_virtI rfl rfl (C2) (Nat.le_of_ble_eq_true rfl) ⟨rfl, rfl, rfl, rfl⟩ rfl rfl rfl (Nat.le_of_ble_eq_true rfl) rfl rfl ?_
        refine a_iaddN rfl rfl ?_
        refine a_as (y := nI (kk)) (congrArg nI (by omega)) ?_
        refine a_istore_4 rfl rfl rfl ?_
        refine a_iinc_5 rfl rfl (nI_inc _ _) rfl ?_
        refine a_goto rfl rfl ?_
        exact A3
    · rw [if_neg q] at Z
      obtain ⟨f0, hS, hlt⟩ := LI_lt H
      have sC := mEq_same eD
      have eR : rlO D = rlO A := rlO_eq (eD.1 2 (by omega))
      have eF : flA TX D = flA TX A := flA_eq (eD.1 2 (by omega))
      have fm : fmR D h := ⟨rOK_clOK rD, fun c hc => by rw [sC _ (by omega) (by omega), sC _ (by omega) (by omega)]; exact (CI_fm H).2 c hc⟩
      obtain ⟨h2, R2, C2, c2, M2, K2, W2, r1, r2⟩ := e_passHour_62 (L := L) (t := t) (lt := lt) (rt := rt) (rp := rp) (sw := sw) (gl := gl) false D (flA TX D) (rlO A) R f0 (LawS_same sC hS) (by rw [eF]; exact hlt) (by rw [eF]; exact CI_ltR H) fm (by omega) rD M K (by omega)
      have h5 := psA_n (wr := false) (fl := flA TX D) rD
      have W3 : LW (flA TX A) D h2 t (rlO A) (D 9) R2 (gN D 8) (szN (gN D 8)) := by rw [← eF]; exact W2
      have L2 : LI A TX R2 (rlO A) h2 := by
        have := LW_LS W3
        have l3 : LawS A h2 (rlO A) R2 (flA TX A 0) := LawS_same (fun i g1 g2 => (sC i g1 g2).symm) this
        refine ⟨flA TX A 0, l3, fun z => ?_, fun x hx z => ?_⟩
        · unfold rlO at z
          unfold flA
          split at z
          · rename_i c; rw [if_pos c]
          · exact absurd z (by simp)
        · unfold rlO at z
          unfold flA
          split at z
          · exact absurd z (by simp)
          · rename_i c
            rw [if_neg c]
            simp at z
            have : gN A 2 = x := by omega
            rw [this]
      have H2 : CI A B TX R2 t (rlO A) h2 := CI_law H rfl rfl rfl c2 L2
      obtain ⟨h3, lt3, R3, A3, c3, H3, r3, r4⟩ := ih (i + 1) (kk + (psA false (flA TX D) D).2) R2 _ (rlO A) h2 (by omega) (by omega) (psA_OK rD (by omega)) (mEq_tr eD (mEq_ps rD)) M2 K2 H2 (by omega) Z
      refine ⟨h3, lt3, R3, ?_, CF_trans (CF_cl rfl c2) c3, H3, by omega, by omega⟩
      cases hro : rlO A with
      | none =>
        rw [hro] at Cr C2 A3
        refine a_iload_5 rfl rfl ?_
        refine a_iload_1 rfl rfl ?_
        refine a_cmpN_ge rfl rfl rfl (by omega) (by omega) (fun c_57 => False.elim (by omega)) (fun _ => ?_)
        refine a_iload_4 rfl rfl ?_
        refine a_aload_0 rfl rfl ?_
        refine a_getr rfl rfl rfl (fun _ _ _ => rfl) rfl ?_
        refine a_aload_0 rfl rfl ?_
        refine a_virtN rfl rfl (Cr) (Nat.le_of_ble_eq_true rfl) ⟨rfl, rfl, rfl, rfl⟩ rfl rfl rfl (Nat.le_of_ble_eq_true rfl) rfl rfl ?_
        refine a_aload_0 rfl rfl ?_
        refine a_getr rfl rfl rfl (fun _ _ _ => rfl) rfl ?_
        refine a_virtI rfl rfl (C2) (Nat.le_of_ble_eq_true rfl) ⟨rfl, rfl, rfl, rfl⟩ rfl rfl rfl (Nat.le_of_ble_eq_true rfl) rfl rfl ?_
        refine a_iaddN rfl rfl ?_
        refine a_istore_4 rfl rfl rfl ?_
        refine a_iinc_5 rfl rfl (nI_inc _ _) rfl ?_
        refine a_goto rfl rfl ?_
        exact A3
      | some o =>
        rw [hro] at Cr C2 A3
        refine a_iload_5 rfl rfl ?_
        refine a_iload_1 rfl rfl ?_
        refine a_cmpN_ge rfl rfl rfl (by omega) (by omega) (fun c_57 => False.elim (by omega)) (fun _ => ?_)
        refine a_iload_4 rfl rfl ?_
        refine a_aload_0 rfl rfl ?_
        refine a_getr rfl rfl rfl (fun _ _ _ => rfl) rfl ?_
        refine a_aload_0 rfl rfl ?_
        refine a_virtR rfl rfl (Cr) (Nat.le_of_ble_eq_true rfl) ⟨rfl, rfl, rfl, rfl⟩ rfl rfl rfl (Nat.le_of_ble_eq_true rfl) rfl rfl ?_
        refine a_aload_0 rfl rfl ?_
        refine a_getr rfl rfl rfl (fun _ _ _ => rfl) rfl ?_
        refine a_virtI rfl rfl (C2) (Nat.le_of_ble_eq_true rfl) ⟨rfl, rfl, rfl, rfl⟩ rfl rfl rfl (Nat.le_of_ble_eq_true rfl) rfl rfl ?_
        refine a_iaddN rfl rfl ?_
        refine a_istore_4 rfl rfl rfl ?_
        refine a_iinc_5 rfl rfl (nI_inc _ _) rfl ?_
        refine a_goto rfl rfl ?_
        exact A3
/-- the reference while it looks ahead: cells D, nothing written -/
theorem l_rfore {lt : Option Nat} (w b : Int32) (n : Nat) (hn : n ≤ 60) (j : Nat) : ∀ (i kk : Nat) (D : Nat → Int32) (h : Nat → Nat → Int32) (gl : Nat → Nat → Int64), i + j = n → okA A → rOK D → mEq A D → h 82 = D → h 81 25 = bB false → h 81 26 = nI kk → (∀ x, x < gN A 1 → txF (TX x) (h 84) x) → ∃ (h' : Nat → Nat → Int32) (gl' : Nat → Nat → Int64), CF rfS h h' ∧ h' 83 = h 83 ∧ h' 92 = h 92 ∧ (∀ j, j ≠ 26 → h' 81 j = h 81 j) ∧ h' 82 = (ftS TX j D kk).1 ∧ h' 81 26 = nI (ftS TX j D kk).2 ∧ ∀ r : Option Value × mvSt, avA 9 286 70 [.ref 81, .int (nI n), .int w, .int b, .int (nI n)] [] (sX L t lt rt rp sw h' gl') r → avA 9 286 41 [.ref 81, .int (nI n), .int w, .int b, .int (nI i)] [] (sX L t lt rt rp sw h gl) r := by
  induction j with
  | zero =>
    intro i kk D h gl hi ok rD eD e82 e25 e26 hT
    have e : i = n := by omega
    subst e
    refine ⟨h, gl, CF_refl, rfl, rfl, fun _ _ => rfl, e82, e26, fun r Z => ?_⟩
    refine a_iload_4 rfl rfl ?_
    refine a_iload_1 rfl rfl ?_
    refine a_cmpN_ge rfl rfl rfl (by omega) (by omega) (fun _ => ?_) (fun c_44 => False.elim (by omega))
    exact Z
  | succ j ih =>
    intro i kk D h gl hi ok rD eD e82 e25 e26 hT
    have l8 := gN_le (m := 9999) rD (i := 8) (by omega) (by decide)
    have e8 : h 82 8 = nI (gN D 8) := by rw [e82]; exact gN_eq rD (by omega) (by decide)
    rw [ftS]
    by_cases q : gN D 8 = 9999
    · rw [if_pos q]
      obtain ⟨h', gl', g1, g2, g3, g4, g5, g6, A3⟩ := ih (i + 1) kk D h gl (by omega) ok rD eD e82 e25 e26 hT
      refine ⟨h', gl', g1, g2, g3, g4, g5, g6, fun r Z => ?_⟩
      refine a_iload_4 rfl rfl ?_
      refine a_iload_1 rfl rfl ?_
      refine a_cmpN_ge rfl rfl rfl (by omega) (by omega) (fun c_44 => False.elim (by omega)) (fun _ => ?_)
      refine a_aload_0 rfl rfl ?_
      refine a_getr rfl rfl rfl (fun _ _ _ => rfl) rfl ?_
      refine a_bipush (v := (nI 8)) rfl rfl rfl ?_
      refine a_iald rfl rfl (Or.inl rfl) rfl (by omega) (by decide) ?_
      refine a_as (y := nI (gN D 8)) e8 ?_
      refine a_sipush (v := (nI 9999)) rfl rfl rfl ?_
      refine a_cmpN_ge rfl rfl rfl (by omega) (by omega) (fun _ => ?_) (fun c_57 => False.elim (by omega))
      refine a_iinc_4 rfl rfl (nI_inc _ _) rfl ?_
      refine a_goto rfl rfl ?_
      exact A3 r Z
    · rw [if_neg q]
      have eF : flA TX D = flA TX A := flA_eq (eD.1 2 (by omega))
      have tx : ∀ s, s < 3 → txR (h 84) (h 82 2) s (flA TX D s) := fun s hs => by
        rw [e82, eF, eD.1 2 (by omega)]
        unfold flA
        rcases A2_cases ok with z | ⟨r, hr, e, eg⟩
        · rw [if_pos z]
          exact Or.inl ⟨z, rfl⟩
        · have h4 := gN_le (m := 4) ok.1 (i := 1) (by omega) (by decide)
          have z : ¬ A 2 = -1 := by rw [e]; exact nI_ne_m1 (by omega)
          rw [if_neg z, eg]
          exact Or.inr ⟨r, by omega, e, (hT r hr).2 s hs⟩
      subst e82
      obtain ⟨h2, gl2, C2, c2, d2, d3, d4⟩ := r_pass (L := L) (t := t) (lt := lt) (rt := rt) (rp := rp) (sw := sw) (gl := gl) false (flA TX (h 82)) kk rD (by omega) e25 e26 tx
      obtain ⟨h', gl', g1, g2, g3, g4, g5, g6, A3⟩ := ih (i + 1) (kk + (psA false (flA TX (h 82)) (h 82)).2) (psA false (flA TX (h 82)) (h 82)).1 h2 gl2 (by omega) ok (psA_OK rD (by omega)) (mEq_tr eD (mEq_ps rD)) d2 ((d3 25 (by omega)).trans e25) d4 (by rw [c2 84 rfl]; exact hT)
      refine ⟨h', gl', CF_trans (CF_rf rfl c2) g1, g2.trans (c2 83 rfl), g3.trans (c2 92 rfl), fun j hj => (g4 j hj).trans (d3 j hj), g5, g6, fun r Z => ?_⟩
      refine a_iload_4 rfl rfl ?_
      refine a_iload_1 rfl rfl ?_
      refine a_cmpN_ge rfl rfl rfl (by omega) (by omega) (fun c_44 => False.elim (by omega)) (fun _ => ?_)
      refine a_aload_0 rfl rfl ?_
      refine a_getr rfl rfl rfl (fun _ _ _ => rfl) rfl ?_
      refine a_bipush (v := (nI 8)) rfl rfl rfl ?_
      refine a_iald rfl rfl (Or.inl rfl) rfl (by omega) (by decide) ?_
      refine a_as (y := nI (gN (h 82) 8)) e8 ?_
      refine a_sipush (v := (nI 9999)) rfl rfl rfl ?_
      refine a_cmpN_ge rfl rfl rfl (by omega) (by omega) (fun c_57 => False.elim (by omega)) (fun _ => ?_)
      refine a_aload_0 rfl rfl ?_
      refine a_virt0 rfl rfl (C2) (Nat.le_of_ble_eq_true rfl) ⟨rfl, rfl, rfl, rfl⟩ rfl rfl rfl (Nat.le_of_ble_eq_true rfl) rfl rfl ?_
      refine a_iinc_4 rfl rfl (nI_inc _ _) rfl ?_
      refine a_goto rfl rfl ?_
      exact A3 r Z
theorem l_aside {lt : Option Nat} {h : Nat → Nat → Int32} {gl : Nat → Nat → Int64} (X F : Nat → Int32) (hX : h 82 = X) (m : Nat) : ∀ i, i + m = 30 → avA 0 287 3 [.ref 81, .int (nI (8 + i))] [] (sX L t lt rt rp sw (va_up h 92 (rw2 8 i (fun j => X (8 + j)) F)) gl) (none, sX L t lt rt rp sw (mvPut (mvPut (va_up h 92 (rw2 8 30 (fun j => X (8 + j)) F)) 81 25 (nI 0)) 81 26 (nI 0)) gl) := by
  induction m with
  | zero =>
    intro i hi
    have e : i = 30 := by omega
    subst e
    refine a_iload_1 rfl rfl ?_
    refine a_bipush (v := (nI 38)) rfl rfl rfl ?_
    refine a_cmpN_ge rfl rfl rfl (by omega) (by omega) (fun _ => ?_) (fun c_6 => False.elim (by omega))
    refine a_aload_0 rfl rfl ?_
    refine a_iconst (v := (nI 0)) rfl rfl rfl ?_
    refine a_putz rfl rfl rfl rfl (Or.inl rfl) ?_
    refine a_aload_0 rfl rfl ?_
    refine a_iconst (v := (nI 0)) rfl rfl rfl ?_
    refine a_puti rfl rfl rfl rfl ?_
    exact a_vret rfl rfl
  | succ m ih =>
    intro i hi
    refine a_iload_1 rfl rfl ?_
    refine a_bipush (v := (nI 38)) rfl rfl rfl ?_
    refine a_cmpN_ge rfl rfl rfl (by omega) (by omega) (fun c_6 => False.elim (by omega)) (fun _ => ?_)
    refine a_aload_0 rfl rfl ?_
    refine a_getr rfl rfl rfl (fun _ _ _ => rfl) rfl ?_
    refine a_iload_1 rfl rfl ?_
    refine a_aload_0 rfl rfl ?_
    refine a_getr rfl rfl rfl (fun _ _ _ => rfl) rfl ?_
    refine a_iload_1 rfl rfl ?_
    refine a_iald rfl rfl (Or.inl rfl) rfl (by omega) (by decide) ?_
    refine a_as (y := X (8 + i)) (show h 82 (8 + i) = X (8 + i) by rw [hX]) ?_
    refine a_iast rfl rfl rfl rfl (by omega) (by decide) ?_
    rw [up_put, rw2_s _ _ _ _ rfl]
    refine a_iinc_1 rfl rfl (nI_inc _ _) rfl ?_
    refine a_goto rfl rfl ?_
    exact ih (i + 1) (by omega)
theorem l_back {lt : Option Nat} {h : Nat → Nat → Int32} {gl : Nat → Nat → Int64} (X F : Nat → Int32) (hX : ∀ j, j < 30 → h 92 (8 + j) = X (8 + j)) (m : Nat) : ∀ i, i + m = 30 → avA 0 288 3 [.ref 81, .int (nI (8 + i))] [] (sX L t lt rt rp sw (va_up h 82 (rw2 8 i (fun j => X (8 + j)) F)) gl) (none, sX L t lt rt rp sw (mvPut (va_up h 82 (rw2 8 30 (fun j => X (8 + j)) F)) 81 25 (nI 1)) gl) := by
  induction m with
  | zero =>
    intro i hi
    have e : i = 30 := by omega
    subst e
    refine a_iload_1 rfl rfl ?_
    refine a_bipush (v := (nI 38)) rfl rfl rfl ?_
    refine a_cmpN_ge rfl rfl rfl (by omega) (by omega) (fun _ => ?_) (fun c_6 => False.elim (by omega))
    refine a_aload_0 rfl rfl ?_
    refine a_iconst (v := (nI 1)) rfl rfl rfl ?_
    refine a_putz rfl rfl rfl rfl (Or.inr rfl) ?_
    exact a_vret rfl rfl
  | succ m ih =>
    intro i hi
    refine a_iload_1 rfl rfl ?_
    refine a_bipush (v := (nI 38)) rfl rfl rfl ?_
    refine a_cmpN_ge rfl rfl rfl (by omega) (by omega) (fun c_6 => False.elim (by omega)) (fun _ => ?_)
    refine a_aload_0 rfl rfl ?_
    refine a_getr rfl rfl rfl (fun _ _ _ => rfl) rfl ?_
    refine a_iload_1 rfl rfl ?_
    refine a_aload_0 rfl rfl ?_
    refine a_getr rfl rfl rfl (fun _ _ _ => rfl) rfl ?_
    refine a_iload_1 rfl rfl ?_
    refine a_iald rfl rfl (Or.inl rfl) rfl (by omega) (by decide) ?_
    refine a_as (y := X (8 + i)) (hX i (by omega)) ?_
    refine a_iast rfl rfl rfl rfl (by omega) (by decide) ?_
    rw [up_put, rw2_s _ _ _ _ rfl]
    refine a_iinc_1 rfl rfl (nI_inc _ _) rfl ?_
    refine a_goto rfl rfl ?_
    exact ih (i + 1) (by omega)
/-- what is asked of the time ahead -/
abbrev ftP (A : Nat → Int32) (n w b : Int32) : Prop := (1 ≤ n.toInt ∧ n.toInt ≤ 60) ∧ (0 ≤ w.toInt ∧ w.toInt ≤ 2) ∧ (w = nI 1 → 0 ≤ b.toInt ∧ b.toInt < gN A 0)
def ftV (D : Nat → Int32) (k : Nat) (w b : Int32) : Int32 := if w = nI 0 then D 10 else if w = nI 1 then D (14 + 5 * b.toInt.toNat) else nI k
theorem p_foretold (hA : okA A) (n w b : Int32) : ∃ r, opP 60 6 129 [.ref 7, .int n, .int w, .int b] 9 286 [.ref 81, .int n, .int w, .int b] TX A B r A B := by
  have h5 := gN_le (m := 5) hA.1 (i := 0) (by omega) (by decide)
  have e0 : A 0 = nI (gN A 0) := gN_eq hA.1 (by omega) (by decide)
  by_cases hP : ftP A n w b
  · obtain ⟨m, hm, rfl, _⟩ := cell_of (x := n) (m := 61) (by have := hP.1; omega) (by have := hP.1; omega)
    have hP1 := hP.1
    rw [nI_toInt (by omega)] at hP1
    obtain ⟨f1, f2, f3, f4⟩ := ftS_ok (TX := TX) m A 0 hA.1
    have w012 : w = nI 0 ∨ w = nI 1 ∨ w = nI 2 := by
      obtain ⟨q, hq, rfl, _⟩ := cell_of (x := w) (m := 3) (by have := hP.2.1; omega) (by have := hP.2.1; omega)
      match q, hq with
      | 0, _ => exact Or.inl rfl
      | 1, _ => exact Or.inr (Or.inl rfl)
      | 2, _ => exact Or.inr (Or.inr rfl)
    have g0 : gN (ftS TX m A 0).1 0 = gN A 0 := gN_c (f2.1 0 (by omega))
    refine ⟨ftV (ftS TX m A 0).1 (ftS TX m A 0).2 w b, ?_, ?_, hA, rfl⟩
    · intro L t lt rt rp sw h gl R H hR
      obtain ⟨e4, _⟩ := CI_e4 H
      obtain ⟨h1, C1, c1, ⟨m0, m1, m2, m3, m4, m9, m10⟩, mb, mk⟩ := e_mcopy_62_14 (L := L) (t := t) (lt := lt) (rt := rt) (rp := rp) (sw := sw) (h := h) (gl := gl)
      have M1 : MR 62 A h1 := MR_copy h5 H.2.2.2.1.2.1 m0 m1 m2 m3 m4 mb
      have K1 : BK false 62 A h1 := BK_weak (BK_copy H.2.2.2.1.2.2.1 m9 m10 mk)
      have H1 : CI A B TX R t lt h1 := CI_cf H rfl rfl rfl rfl c1
      have Zc : ∀ (h' : Nat → Nat → Int32) (lt' : Option Nat), MR 62 (ftS TX m A 0).1 h' → avA 6 129 86 [.ref 7, .int (nI m), .int w, .int b, .int (nI (ftS TX m A 0).2), .int (nI m)] [] (sX L t lt' rt rp sw h' gl) (some (.int (ftV (ftS TX m A 0).1 (ftS TX m A 0).2 w b)), sX L t lt' rt rp sw h' gl) := by
        intro h' lt' M'
        rcases w012 with rfl | rfl | rfl
        · refine a_iload_2 rfl rfl ?_
          refine a_ifN_ne rfl rfl rfl (by omega) (fun c_87 => absurd c_87 (by decide)) (fun _ => ?_)
          refine a_aload_0 rfl rfl ?_
          refine a_getr rfl rfl rfl (fun _ _ _ => rfl) rfl ?_
          refine a_geti rfl rfl rfl (fun _ _ _ => rfl) ?_
          refine a_as (y := (ftS TX m A 0).1 10) M'.2.1 ?_
          exact a_iret rfl rfl
        · obtain ⟨y, hy, rfl, ey⟩ := cell_of (x := b) (m := gN A 0) (hP.2.2 rfl).1 (hP.2.2 rfl).2
          have eb : h' 64 y = (ftS TX m A 0).1 (14 + 5 * y) := (M'.2.2.2.2.2 y (by omega)).2.1
          refine a_iload_2 rfl rfl ?_
          refine a_ifN_ne rfl rfl rfl (by omega) (fun _ => ?_) (fun c_87 => absurd c_87 (by decide))
          refine a_iload_2 rfl rfl ?_
          refine a_iconst (v := (nI 1)) rfl rfl rfl ?_
          refine a_cmpN_ne rfl rfl rfl (by omega) (by omega) (fun c_100 => absurd c_100 (by decide)) (fun _ => ?_)
          refine a_aload_0 rfl rfl ?_
          refine a_getr rfl rfl rfl (fun _ _ _ => rfl) rfl ?_
          refine a_getr rfl rfl rfl (fun _ _ _ => rfl) rfl ?_
          refine a_iload_3 rfl rfl ?_
          refine a_iald rfl rfl (Or.inl rfl) rfl (by omega) (by decide) ?_
          refine a_as (y := (ftS TX m A 0).1 (14 + 5 * y)) eb ?_
          refine a_goto rfl rfl ?_
          refine av_to (a_iret rfl rfl) ?_
          unfold ftV
          rw [if_neg (by decide), if_pos rfl, ey]
        · refine a_iload_2 rfl rfl ?_
          refine a_ifN_ne rfl rfl rfl (by omega) (fun _ => ?_) (fun c_87 => absurd c_87 (by decide))
          refine a_iload_2 rfl rfl ?_
          refine a_iconst (v := (nI 1)) rfl rfl rfl ?_
          refine a_cmpN_ne rfl rfl rfl (by omega) (by omega) (fun _ => ?_) (fun c_100 => absurd c_100 (by decide))
          refine a_iload_4 rfl rfl ?_
          exact a_iret rfl rfl
      obtain ⟨h2, lt2, R2, A2, c2, H2, r1, r2⟩ := l_cfore (L := L) (t := t) (rt := rt) (rp := rp) (sw := sw) (gl := gl) (A := A) (B := B) (TX := TX) w b m (by omega) (ftV (ftS TX m A 0).1 (ftS TX m A 0).2 w b) m 0 0 R A lt h1 (by omega) (by omega) hA.1 mEq_refl M1 K1 H1 (by omega) Zc
      refine ⟨h2, lt2, R2, sw, ?_, CF_trans (CF_cl rfl c1) c2, H2, by omega, by omega⟩
      by_cases hw : w = nI 1
      · subst hw
        show avA _ 129 0 [.ref 7, .int (nI (m)), .int (nI 1), .int (b), mvU, mvU] [] _ _
        refine a_iload_1 rfl rfl ?_
        refine a_iconst (v := (nI 1)) rfl rfl rfl ?_
        refine a_cmpN_lt rfl rfl rfl (by omega) (by omega) (fun c_2 => False.elim (by omega)) (fun _ => ?_)
        refine a_iload_1 rfl rfl ?_
        refine a_bipush (v := (nI 60)) rfl rfl rfl ?_
        refine a_cmpN_gt rfl rfl rfl (by omega) (by omega) (fun c_8 => False.elim (by omega)) (fun _ => ?_)
        refine a_iload_2 rfl rfl ?_
        refine a_iconst (v := (nI 2)) rfl rfl rfl ?_
        refine a_statI rfl rfl (e_isWithin (nI 1) 2 (by omega)) (Nat.le_of_ble_eq_true rfl) ⟨rfl, rfl, rfl⟩ rfl rfl rfl (Nat.le_of_ble_eq_true rfl) rfl ?_
        refine a_ifb_eq rfl rfl rfl (fun c_16 => by first | exact absurd c_16 (not_not_intro hP.2.1) | exact absurd (not_not_intro hP.2.1) c_16) (fun _ => ?_)
        refine a_iload_2 rfl rfl ?_
        refine a_iconst (v := (nI 1)) rfl rfl rfl ?_
        refine a_cmpN_ne rfl rfl rfl (by omega) (by omega) (fun c_21 => absurd c_21 (by decide)) (fun _ => ?_)
        refine a_aload_0 rfl rfl ?_
        refine a_iload_3 rfl rfl ?_
        refine a_virtI rfl rfl (e_isBeast (gN A 0) h5 e4 b) (Nat.le_of_ble_eq_true rfl) ⟨rfl, rfl, rfl, rfl⟩ rfl rfl rfl (Nat.le_of_ble_eq_true rfl) rfl rfl ?_
        refine a_ifb_ne rfl rfl rfl (fun _ => ?_) (fun c_29 => by first | exact absurd (hP.2.2 rfl) c_29 | exact absurd c_29 (hP.2.2 rfl))
        refine a_aload_0 rfl rfl ?_
        refine a_getr rfl rfl rfl (fun _ _ _ => rfl) rfl ?_
        refine a_aload_0 rfl rfl ?_
        refine a_getr rfl rfl rfl (fun _ _ _ => rfl) rfl ?_
        refine a_getr rfl rfl rfl (fun _ _ _ => rfl) rfl ?_
        refine a_virt0 rfl rfl (C1) (Nat.le_of_ble_eq_true rfl) ⟨rfl, rfl, rfl, rfl⟩ rfl rfl rfl (Nat.le_of_ble_eq_true rfl) rfl rfl ?_
        refine a_iconst (v := (nI 0)) rfl rfl rfl ?_
        refine a_istore_4 rfl rfl rfl ?_
        refine a_iconst (v := (nI 0)) rfl rfl rfl ?_
        refine a_istore_5 rfl rfl rfl ?_
        exact A2
      · show avA _ 129 0 [.ref 7, .int (nI (m)), .int (w), .int (b), mvU, mvU] [] _ _
        refine a_iload_1 rfl rfl ?_
        refine a_iconst (v := (nI 1)) rfl rfl rfl ?_
        refine a_cmpN_lt rfl rfl rfl (by omega) (by omega) (fun c_2 => False.elim (by omega)) (fun _ => ?_)
        refine a_iload_1 rfl rfl ?_
        refine a_bipush (v := (nI 60)) rfl rfl rfl ?_
        refine a_cmpN_gt rfl rfl rfl (by omega) (by omega) (fun c_8 => False.elim (by omega)) (fun _ => ?_)
        refine a_iload_2 rfl rfl ?_
        refine a_iconst (v := (nI 2)) rfl rfl rfl ?_
        refine a_statI rfl rfl (e_isWithin w 2 (by omega)) (Nat.le_of_ble_eq_true rfl) ⟨rfl, rfl, rfl⟩ rfl rfl rfl (Nat.le_of_ble_eq_true rfl) rfl ?_
        refine a_ifb_eq rfl rfl rfl (fun c_16 => by first | exact absurd c_16 (not_not_intro hP.2.1) | exact absurd (not_not_intro hP.2.1) c_16) (fun _ => ?_)
        refine a_iload_2 rfl rfl ?_
        refine a_iconst (v := (nI 1)) rfl rfl rfl ?_
        refine a_cmp_ne rfl rfl rfl (fun _ => ?_) (fun c_21 => by first | exact absurd hw c_21 | exact absurd c_21 hw)
        refine a_aload_0 rfl rfl ?_
        refine a_getr rfl rfl rfl (fun _ _ _ => rfl) rfl ?_
        refine a_aload_0 rfl rfl ?_
        refine a_getr rfl rfl rfl (fun _ _ _ => rfl) rfl ?_
        refine a_getr rfl rfl rfl (fun _ _ _ => rfl) rfl ?_
        refine a_virt0 rfl rfl (C1) (Nat.le_of_ble_eq_true rfl) ⟨rfl, rfl, rfl, rfl⟩ rfl rfl rfl (Nat.le_of_ble_eq_true rfl) rfl rfl ?_
        refine a_iconst (v := (nI 0)) rfl rfl rfl ?_
        refine a_istore_4 rfl rfl rfl ?_
        refine a_iconst (v := (nI 0)) rfl rfl rfl ?_
        refine a_istore_5 rfl rfl rfl ?_
        exact A2
    · intro L t lt rt rp sw h gl ok H
      have e0' : h 82 0 = nI (gN A 0) := by rw [H.1]; exact e0
      let h1 : Nat → Nat → Int32 := mvPut (mvPut (va_up h 92 (rw2 8 30 (fun j => A (8 + j)) (h 92))) 81 25 (nI 0)) 81 26 (nI 0)
      have C1 : avE 0 287 [.ref 81] (sX L t lt rt rp sw h gl) (none, sX L t lt rt rp sw h1 gl) := by
        have Z := l_aside (L := L) (t := t) (lt := lt) (rt := rt) (rp := rp) (sw := sw) (h := h) (gl := gl) A (h 92) H.1 30 0 rfl
        rw [rw2_0, up_id] at Z
        show avA _ 287 0 [.ref 81, mvU] [] _ _
        refine a_bipush (v := (nI 8)) rfl rfl rfl ?_
        refine a_istore_1 rfl rfl rfl ?_
        exact Z
      -- the answer, and the cells put back
      have key : ∀ (h' : Nat → Nat → Int32) (gl' : Nat → Nat → Int64), h' 92 = h1 92 → h' 82 = (ftS TX m A 0).1 → avE 0 288 [.ref 81] (sX L t lt rt rp sw h' gl') (none, sX L t lt rt rp sw (mvPut (va_up h' 82 A) 81 25 (nI 1)) gl') := by
        intro h' gl' g1 g2
        have Z := l_back (L := L) (t := t) (lt := lt) (rt := rt) (rp := rp) (sw := sw) (h := h') (gl := gl') A (h' 82) (fun j hj => by rw [g1]; show rw2 8 30 (fun j => A (8 + j)) (h 92) (8 + j) = A (8 + j); rw [rw2_in hj]) 30 0 rfl
        have eA : rw2 8 30 (fun j => A (8 + j)) (h' 82) = A := by
          funext i
          by_cases c : 8 ≤ i ∧ i < 38
          · obtain ⟨j, rfl⟩ := Nat.exists_eq_add_of_le c.1
            rw [rw2_in (by omega)]
          · rw [rw2_out (by omega), g2]
            by_cases c2 : i < 8
            · exact f2.1 i c2
            · by_cases c3 : i < 1696
              · exact f2.2.1 i (by omega) c3
              · exact f3 i (by omega)
        rw [eA, rw2_0, up_id] at Z
        show avA _ 288 0 [.ref 81, mvU] [] _ _
        refine a_bipush (v := (nI 8)) rfl rfl rfl ?_
        refine a_istore_1 rfl rfl rfl ?_
        exact Z
      have fin : ∀ (h' : Nat → Nat → Int32), CF rfS h1 h' → h' 83 = h1 83 → (∀ j, j ≠ 26 → h' 81 j = h1 81 j) → CF rfS h (mvPut (va_up h' 82 A) 81 25 (nI 1)) ∧ (∀ j, j ≠ 26 → mvPut (va_up h' 82 A) 81 25 (nI 1) 81 j = h 81 j) ∧ RI A B TX (mvPut (va_up h' 82 A) 81 25 (nI 1)) := by
        intro h' g1 g2 g4
        have c0 : CF rfS h h1 := CF_put (CF_put (CF_up CF_refl rfl) rfl) rfl
        refine ⟨CF_put (CF_up (CF_trans c0 g1) rfl) rfl, fun j hj => ?_, rfl, g2.trans H.2.1, rfl, ?_⟩
        · show va_up (h' 81) 25 (nI 1) j = _
          by_cases c : j = 25
          · subst c; rw [va_up_self]; exact H.2.2.1.symm
          · rw [va_up_ne _ _ c, g4 j hj]
            show va_up (va_up (h 81) 25 (nI 0)) 26 (nI 0) j = _
            rw [va_up_ne _ _ hj, va_up_ne _ _ c]
        · have e84 : mvPut (va_up h' 82 A) 81 25 (nI 1) 84 = h 84 := (g1 84 rfl)
          rw [e84]
          exact H.2.2.2
      obtain ⟨h', gl', g1, g2, g3, g4, g5, g6, A3⟩ := l_rfore (L := L) (t := t) (lt := lt) (rt := rt) (rp := rp) (sw := sw) (A := A) (TX := TX) w b m (by omega) m 0 0 A h1 gl (by omega) hA hA.1 mEq_refl H.1 rfl rfl H.2.2.2
      obtain ⟨z1, z2, z3⟩ := fin h' g1 g2 g4
      have Cb := key h' gl' g3 g5
      refine ⟨_, gl', ?_, z1, z2, z3⟩
      have Zr : avA 9 286 70 [.ref 81, .int (nI m), .int w, .int b, .int (nI m)] [] (sX L t lt rt rp sw h' gl') (some (.int (ftV (ftS TX m A 0).1 (ftS TX m A 0).2 w b)), sX L t lt rt rp sw (mvPut (va_up h' 82 A) 81 25 (nI 1)) gl') := by
        rcases w012 with rfl | rfl | rfl
        · refine a_iload_2 rfl rfl ?_
          refine a_ifN_ne rfl rfl rfl (by omega) (fun c_71 => absurd c_71 (by decide)) (fun _ => ?_)
          refine a_aload_0 rfl rfl ?_
          refine a_getr rfl rfl rfl (fun _ _ _ => rfl) rfl ?_
          refine a_bipush (v := (nI 10)) rfl rfl rfl ?_
          refine a_iald rfl rfl (Or.inl rfl) rfl (by omega) (by decide) ?_
          refine a_as (y := (ftS TX m A 0).1 10) (by rw [g5]) ?_
          refine a_goto rfl rfl ?_
          refine a_istore_4 rfl rfl rfl ?_
          refine a_aload_0 rfl rfl ?_
          refine a_virt0 rfl rfl (Cb) (Nat.le_of_ble_eq_true rfl) ⟨rfl, rfl, rfl, rfl⟩ rfl rfl rfl (Nat.le_of_ble_eq_true rfl) rfl rfl ?_
          refine a_iload_4 rfl rfl ?_
          exact a_iret rfl rfl
        · obtain ⟨y, hy, rfl, ey⟩ := cell_of (x := b) (m := gN A 0) (hP.2.2 rfl).1 (hP.2.2 rfl).2
          refine a_iload_2 rfl rfl ?_
          refine a_ifN_ne rfl rfl rfl (by omega) (fun _ => ?_) (fun c_71 => absurd c_71 (by decide))
          refine a_iload_2 rfl rfl ?_
          refine a_iconst (v := (nI 1)) rfl rfl rfl ?_
          refine a_cmpN_ne rfl rfl rfl (by omega) (by omega) (fun c_86 => absurd c_86 (by decide)) (fun _ => ?_)
          refine a_aload_0 rfl rfl ?_
          refine a_iload_3 rfl rfl ?_
          refine a_iconst (v := (nI 1)) rfl rfl rfl ?_
          refine a_virtI rfl rfl (r_get y 1 (by omega) (by omega)) (Nat.le_of_ble_eq_true rfl) ⟨rfl, rfl, rfl, rfl⟩ rfl rfl rfl (Nat.le_of_ble_eq_true rfl) rfl rfl ?_
          refine a_as (y := (ftS TX m A 0).1 (14 + 5 * y)) (by rw [g5, show 13 + 5 * y + 1 = 14 + 5 * y by omega]) ?_
          refine a_goto rfl rfl ?_
          refine a_istore_4 rfl rfl rfl ?_
          refine a_aload_0 rfl rfl ?_
          refine a_virt0 rfl rfl (Cb) (Nat.le_of_ble_eq_true rfl) ⟨rfl, rfl, rfl, rfl⟩ rfl rfl rfl (Nat.le_of_ble_eq_true rfl) rfl rfl ?_
          refine a_iload_4 rfl rfl ?_
          refine av_to (a_iret rfl rfl) ?_
          unfold ftV
          rw [if_neg (by decide), if_pos rfl, ey]
        · refine a_iload_2 rfl rfl ?_
          refine a_ifN_ne rfl rfl rfl (by omega) (fun _ => ?_) (fun c_71 => absurd c_71 (by decide))
          refine a_iload_2 rfl rfl ?_
          refine a_iconst (v := (nI 1)) rfl rfl rfl ?_
          refine a_cmpN_ne rfl rfl rfl (by omega) (by omega) (fun _ => ?_) (fun c_86 => absurd c_86 (by decide))
          refine a_aload_0 rfl rfl ?_
          refine a_geti rfl rfl rfl (fun _ _ _ => rfl) ?_
          refine a_as (y := nI (ftS TX m A 0).2) g6 ?_
          refine a_istore_4 rfl rfl rfl ?_
          refine a_aload_0 rfl rfl ?_
          refine a_virt0 rfl rfl (Cb) (Nat.le_of_ble_eq_true rfl) ⟨rfl, rfl, rfl, rfl⟩ rfl rfl rfl (Nat.le_of_ble_eq_true rfl) rfl rfl ?_
          refine a_iload_4 rfl rfl ?_
          exact a_iret rfl rfl
      have A4 := A3 _ Zr
      by_cases hw : w = nI 1
      · subst hw
        show avA _ 286 0 [.ref 81, .int (nI (m)), .int (nI 1), .int (b), mvU] [] _ _
        refine a_iload_1 rfl rfl ?_
        refine a_iconst (v := (nI 1)) rfl rfl rfl ?_
        refine a_bipush (v := (nI 60)) rfl rfl rfl ?_
        refine a_statI rfl rfl (r_isIn0 (nI m) 1 60 (by omega) (by omega)) (Nat.le_of_ble_eq_true rfl) ⟨rfl, rfl, rfl⟩ rfl rfl rfl (Nat.le_of_ble_eq_true rfl) rfl ?_
        refine a_ifb_eq rfl rfl rfl (fun c_7 => by first | exact absurd c_7 (not_not_intro (by rw [nI_toInt (by omega)]; omega)) | exact absurd (not_not_intro (by rw [nI_toInt (by omega)]; omega)) c_7) (fun _ => ?_)
        refine a_iload_2 rfl rfl ?_
        refine a_iconst (v := (nI 0)) rfl rfl rfl ?_
        refine a_iconst (v := (nI 2)) rfl rfl rfl ?_
        refine a_statI rfl rfl (r_isIn0 (nI 1) 0 2 (by omega) (by omega)) (Nat.le_of_ble_eq_true rfl) ⟨rfl, rfl, rfl⟩ rfl rfl rfl (Nat.le_of_ble_eq_true rfl) rfl ?_
        refine a_ifb_eq rfl rfl rfl (fun c_16 => by first | exact absurd c_16 (not_not_intro hP.2.1) | exact absurd (not_not_intro hP.2.1) c_16) (fun _ => ?_)
        refine a_iload_2 rfl rfl ?_
        refine a_iconst (v := (nI 1)) rfl rfl rfl ?_
        refine a_cmpN_ne rfl rfl rfl (by omega) (by omega) (fun c_21 => absurd c_21 (by decide)) (fun _ => ?_)
        refine a_aload_0 rfl rfl ?_
        refine a_iload_3 rfl rfl ?_
        refine a_virtI rfl rfl (r_isBeast (gN A 0) h5 e0' b) (Nat.le_of_ble_eq_true rfl) ⟨rfl, rfl, rfl, rfl⟩ rfl rfl rfl (Nat.le_of_ble_eq_true rfl) rfl rfl ?_
        refine a_ifb_ne rfl rfl rfl (fun _ => ?_) (fun c_29 => by first | exact absurd (hP.2.2 rfl) c_29 | exact absurd c_29 (hP.2.2 rfl))
        refine a_aload_0 rfl rfl ?_
        refine a_virt0 rfl rfl (C1) (Nat.le_of_ble_eq_true rfl) ⟨rfl, rfl, rfl, rfl⟩ rfl rfl rfl (Nat.le_of_ble_eq_true rfl) rfl rfl ?_
        refine a_iconst (v := (nI 0)) rfl rfl rfl ?_
        refine a_istore_4 rfl rfl rfl ?_
        exact A4
      · show avA _ 286 0 [.ref 81, .int (nI (m)), .int (w), .int (b), mvU] [] _ _
        refine a_iload_1 rfl rfl ?_
        refine a_iconst (v := (nI 1)) rfl rfl rfl ?_
        refine a_bipush (v := (nI 60)) rfl rfl rfl ?_
        refine a_statI rfl rfl (r_isIn0 (nI m) 1 60 (by omega) (by omega)) (Nat.le_of_ble_eq_true rfl) ⟨rfl, rfl, rfl⟩ rfl rfl rfl (Nat.le_of_ble_eq_true rfl) rfl ?_
        refine a_ifb_eq rfl rfl rfl (fun c_7 => by first | exact absurd c_7 (not_not_intro (by rw [nI_toInt (by omega)]; omega)) | exact absurd (not_not_intro (by rw [nI_toInt (by omega)]; omega)) c_7) (fun _ => ?_)
        refine a_iload_2 rfl rfl ?_
        refine a_iconst (v := (nI 0)) rfl rfl rfl ?_
        refine a_iconst (v := (nI 2)) rfl rfl rfl ?_
        refine a_statI rfl rfl (r_isIn0 w 0 2 (by omega) (by omega)) (Nat.le_of_ble_eq_true rfl) ⟨rfl, rfl, rfl⟩ rfl rfl rfl (Nat.le_of_ble_eq_true rfl) rfl ?_
        refine a_ifb_eq rfl rfl rfl (fun c_16 => by first | exact absurd c_16 (not_not_intro hP.2.1) | exact absurd (not_not_intro hP.2.1) c_16) (fun _ => ?_)
        refine a_iload_2 rfl rfl ?_
        refine a_iconst (v := (nI 1)) rfl rfl rfl ?_
        refine a_cmp_ne rfl rfl rfl (fun _ => ?_) (fun c_21 => by first | exact absurd hw c_21 | exact absurd c_21 hw)
        refine a_aload_0 rfl rfl ?_
        refine a_virt0 rfl rfl (C1) (Nat.le_of_ble_eq_true rfl) ⟨rfl, rfl, rfl, rfl⟩ rfl rfl rfl (Nat.le_of_ble_eq_true rfl) rfl rfl ?_
        refine a_iconst (v := (nI 0)) rfl rfl rfl ?_
        refine a_istore_4 rfl rfl rfl ?_
        exact A4
  · refine ⟨-1, ?_, ?_, hA, rfl⟩
    · intro L t lt rt rp sw h gl R H hR
      obtain ⟨e4, _⟩ := CI_e4 H
      refine ⟨h, lt, R, sw, ?_, CF_refl, H, by omega, by omega⟩
      by_cases hw : w = nI 1
      · subst hw
        show avA _ 129 0 [.ref 7, .int (n), .int (nI 1), .int (b), mvU, mvU] [] _ _
        refine a_iload_1 rfl rfl ?_
        refine a_iconst (v := (nI 1)) rfl rfl rfl ?_
        refine a_cmpI_lt rfl rfl rfl rfl (nI_toInt (by omega)) (fun c_2 => ?_) (fun c_2 => ?_)
        · refine a_iconst (v := (-1)) rfl rfl rfl ?_
          exact a_iret rfl rfl
        · refine a_iload_1 rfl rfl ?_
          refine a_bipush (v := (nI 60)) rfl rfl rfl ?_
          refine a_cmpI_gt rfl rfl rfl rfl (nI_toInt (by omega)) (fun c_8 => ?_) (fun c_8 => ?_)
          · refine a_iconst (v := (-1)) rfl rfl rfl ?_
            exact a_iret rfl rfl
          · refine a_iload_2 rfl rfl ?_
            refine a_iconst (v := (nI 2)) rfl rfl rfl ?_
            refine a_statI rfl rfl (e_isWithin (nI 1) 2 (by omega)) (Nat.le_of_ble_eq_true rfl) ⟨rfl, rfl, rfl⟩ rfl rfl rfl (Nat.le_of_ble_eq_true rfl) rfl ?_
            refine a_ifb_eq rfl rfl rfl (fun c_16 => ?_) (fun c_16 => ?_)
            · refine a_iconst (v := (-1)) rfl rfl rfl ?_
              exact a_iret rfl rfl
            · refine a_iload_2 rfl rfl ?_
              refine a_iconst (v := (nI 1)) rfl rfl rfl ?_
              refine a_cmpN_ne rfl rfl rfl (by omega) (by omega) (fun c_21 => absurd c_21 (by decide)) (fun _ => ?_)
              refine a_aload_0 rfl rfl ?_
              refine a_iload_3 rfl rfl ?_
              refine a_virtI rfl rfl (e_isBeast (gN A 0) h5 e4 b) (Nat.le_of_ble_eq_true rfl) ⟨rfl, rfl, rfl, rfl⟩ rfl rfl rfl (Nat.le_of_ble_eq_true rfl) rfl rfl ?_
              refine a_ifb_ne rfl rfl rfl (fun c_29 => by first | exact absurd c_29 (fun q => hP ⟨by omega, c_16, fun _ => q⟩) | exact absurd (fun q => hP ⟨by omega, c_16, fun _ => q⟩) c_29) (fun _ => ?_)
              refine a_iconst (v := (-1)) rfl rfl rfl ?_
              exact a_iret rfl rfl
      · show avA _ 129 0 [.ref 7, .int (n), .int (w), .int (b), mvU, mvU] [] _ _
        refine a_iload_1 rfl rfl ?_
        refine a_iconst (v := (nI 1)) rfl rfl rfl ?_
        refine a_cmpI_lt rfl rfl rfl rfl (nI_toInt (by omega)) (fun c_2 => ?_) (fun c_2 => ?_)
        · refine a_iconst (v := (-1)) rfl rfl rfl ?_
          exact a_iret rfl rfl
        · refine a_iload_1 rfl rfl ?_
          refine a_bipush (v := (nI 60)) rfl rfl rfl ?_
          refine a_cmpI_gt rfl rfl rfl rfl (nI_toInt (by omega)) (fun c_8 => ?_) (fun c_8 => ?_)
          · refine a_iconst (v := (-1)) rfl rfl rfl ?_
            exact a_iret rfl rfl
          · refine a_iload_2 rfl rfl ?_
            refine a_iconst (v := (nI 2)) rfl rfl rfl ?_
            refine a_statI rfl rfl (e_isWithin w 2 (by omega)) (Nat.le_of_ble_eq_true rfl) ⟨rfl, rfl, rfl⟩ rfl rfl rfl (Nat.le_of_ble_eq_true rfl) rfl ?_
            refine a_ifb_eq rfl rfl rfl (fun c_16 => ?_) (fun c_16 => ?_)
            · refine a_iconst (v := (-1)) rfl rfl rfl ?_
              exact a_iret rfl rfl
            · refine a_iload_2 rfl rfl ?_
              refine a_iconst (v := (nI 1)) rfl rfl rfl ?_
              refine a_cmp_ne rfl rfl rfl (fun _ => ?_) (fun c_21 => by first | exact absurd hw c_21 | exact absurd c_21 hw)
              exact absurd ⟨by omega, c_16, fun q => absurd q hw⟩ hP
    · intro L t lt rt rp sw h gl ok H
      have e0' : h 82 0 = nI (gN A 0) := by rw [H.1]; exact e0
      refine ⟨h, gl, ?_, CF_refl, fun _ _ => rfl, H⟩
      by_cases hw : w = nI 1
      · subst hw
        show avA _ 286 0 [.ref 81, .int (n), .int (nI 1), .int (b), mvU] [] _ _
        refine a_iload_1 rfl rfl ?_
        refine a_iconst (v := (nI 1)) rfl rfl rfl ?_
        refine a_bipush (v := (nI 60)) rfl rfl rfl ?_
        refine a_statI rfl rfl (r_isIn0 n 1 60 (by omega) (by omega)) (Nat.le_of_ble_eq_true rfl) ⟨rfl, rfl, rfl⟩ rfl rfl rfl (Nat.le_of_ble_eq_true rfl) rfl ?_
        refine a_ifb_eq rfl rfl rfl (fun c_7 => ?_) (fun c_7 => ?_)
        · refine a_iconst (v := (-1)) rfl rfl rfl ?_
          exact a_iret rfl rfl
        · refine a_iload_2 rfl rfl ?_
          refine a_iconst (v := (nI 0)) rfl rfl rfl ?_
          refine a_iconst (v := (nI 2)) rfl rfl rfl ?_
          refine a_statI rfl rfl (r_isIn0 (nI 1) 0 2 (by omega) (by omega)) (Nat.le_of_ble_eq_true rfl) ⟨rfl, rfl, rfl⟩ rfl rfl rfl (Nat.le_of_ble_eq_true rfl) rfl ?_
          refine a_ifb_eq rfl rfl rfl (fun c_16 => ?_) (fun c_16 => ?_)
          · refine a_iconst (v := (-1)) rfl rfl rfl ?_
            exact a_iret rfl rfl
          · refine a_iload_2 rfl rfl ?_
            refine a_iconst (v := (nI 1)) rfl rfl rfl ?_
            refine a_cmpN_ne rfl rfl rfl (by omega) (by omega) (fun c_21 => absurd c_21 (by decide)) (fun _ => ?_)
            refine a_aload_0 rfl rfl ?_
            refine a_iload_3 rfl rfl ?_
            refine a_virtI rfl rfl (r_isBeast (gN A 0) h5 e0' b) (Nat.le_of_ble_eq_true rfl) ⟨rfl, rfl, rfl, rfl⟩ rfl rfl rfl (Nat.le_of_ble_eq_true rfl) rfl rfl ?_
            refine a_ifb_ne rfl rfl rfl (fun c_29 => by first | exact absurd c_29 (fun q => hP ⟨c_7, c_16, fun _ => q⟩) | exact absurd (fun q => hP ⟨c_7, c_16, fun _ => q⟩) c_29) (fun _ => ?_)
            refine a_iconst (v := (-1)) rfl rfl rfl ?_
            exact a_iret rfl rfl
      · show avA _ 286 0 [.ref 81, .int (n), .int (w), .int (b), mvU] [] _ _
        refine a_iload_1 rfl rfl ?_
        refine a_iconst (v := (nI 1)) rfl rfl rfl ?_
        refine a_bipush (v := (nI 60)) rfl rfl rfl ?_
        refine a_statI rfl rfl (r_isIn0 n 1 60 (by omega) (by omega)) (Nat.le_of_ble_eq_true rfl) ⟨rfl, rfl, rfl⟩ rfl rfl rfl (Nat.le_of_ble_eq_true rfl) rfl ?_
        refine a_ifb_eq rfl rfl rfl (fun c_7 => ?_) (fun c_7 => ?_)
        · refine a_iconst (v := (-1)) rfl rfl rfl ?_
          exact a_iret rfl rfl
        · refine a_iload_2 rfl rfl ?_
          refine a_iconst (v := (nI 0)) rfl rfl rfl ?_
          refine a_iconst (v := (nI 2)) rfl rfl rfl ?_
          refine a_statI rfl rfl (r_isIn0 w 0 2 (by omega) (by omega)) (Nat.le_of_ble_eq_true rfl) ⟨rfl, rfl, rfl⟩ rfl rfl rfl (Nat.le_of_ble_eq_true rfl) rfl ?_
          refine a_ifb_eq rfl rfl rfl (fun c_16 => ?_) (fun c_16 => ?_)
          · refine a_iconst (v := (-1)) rfl rfl rfl ?_
            exact a_iret rfl rfl
          · refine a_iload_2 rfl rfl ?_
            refine a_iconst (v := (nI 1)) rfl rfl rfl ?_
            refine a_cmp_ne rfl rfl rfl (fun _ => ?_) (fun c_21 => by first | exact absurd hw c_21 | exact absurd c_21 hw)
            exact absurd ⟨c_7, c_16, fun q => absurd q hw⟩ hP
end FT
