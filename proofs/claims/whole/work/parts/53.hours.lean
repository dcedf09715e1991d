/-! HOURS, YEARS, SCRIPTS PLAYED -/
theorem nI_ex (x : Int32) : ∃ k : Nat, x = nI k := by
  refine ⟨x.toBitVec.toNat, ?_⟩
  apply Int32.toBitVec_inj.1
  show x.toBitVec = (Int32.ofNat x.toBitVec.toNat).toBitVec
  simp
theorem mEq_ps {TX : Nat → Txt} {A : Nat → Int32} {wr : Bool} (H : rOK A) : mEq A (psA wr (flA TX A) A).1 := by
  refine ⟨fun i hi => psA_lo H (stay_of (Or.inl (by omega))) (by omega), fun i h1 h2 => psA_lo H (stay_of (Or.inr ⟨h1, h2⟩)) (by omega), fun b hb => ⟨psA_lo H (stay_tat hb) (by omega), psA_lo H (stay_tm hb) (by omega)⟩⟩
theorem rlO_eq {A A' : Nat → Int32} (e : A' 2 = A 2) : rlO A' = rlO A := by
  unfold rlO
  rw [e, gN_c e]
theorem flA_eq {TX : Nat → Txt} {A A' : Nat → Int32} (e : A' 2 = A 2) : flA TX A' = flA TX A := by
  unfold flA
  rw [e, gN_c e]
section HP
variable {L t : Nat} {lt rt rp : Option Nat} {sw : Bool} {h : Nat → Nat → Int32} {gl : Nat → Nat → Int64} {A B : Nat → Int32} {TX : Nat → Txt} {R : Nat}
theorem LI_lt (H : CI A B TX R t lt h) : ∃ f0, LawS A h lt R f0 ∧ (lt = rlO A → f0 = flA TX A 0) := by
  obtain ⟨f0, h1, h2, h3⟩ := H.2.2.2.2.2.2
  refine ⟨f0, h1, fun e => ?_⟩
  unfold rlO at e
  unfold flA
  rcases A2_cases H.1 with q | ⟨r, hr, e2, eg⟩
  · rw [if_pos q] at e ⊢
    exact h2 e
  · have q : ¬ A 2 = -1 := by rw [e2]; exact nI_ne_m1 (by have := H.2.2.1; omega)
    rw [if_neg q] at e ⊢
    rw [eg] at e ⊢
    exact h3 r hr e
theorem C_pass (H : CI A B TX R t lt h) (k : KL A) (h8 : gN A 8 < 9999) (hR : R + 1 < 67108864) : ∃ h' R', avE 5 98 [.ref 8, mvRv (rlO A), .ref 14] (sX L t lt rt rp sw h gl) (some (.int (nI (psA true (flA TX A) A).2)), sX L t (rlO A) rt rp sw h' gl) ∧ CF clS h h' ∧ CI (psA true (flA TX A) A).1 B TX R' t (rlO A) h' ∧ R ≤ R' ∧ R' ≤ R + 1 := by
  obtain ⟨f0, hS, hlt⟩ := LI_lt H
  obtain ⟨h', R', C, c, M, K, W, r1, r2⟩ := e_passHour_14 (L := L) (t := t) (lt := lt) (rt := rt) (rp := rp) (sw := sw) (gl := gl) true A (flA TX A) (rlO A) R f0 hS hlt (CI_ltR H) (CI_fm H) hR H.1.1 H.2.2.2.1.2.1 H.2.2.2.1.2.2.1 h8
  have e := mEq_ps (TX := TX) (wr := true) H.1.1
  exact ⟨h', R', C, CF_cl rfl c, CI_mom H k e (psA_OK H.1.1 h8) c rfl rfl rfl M K (LI_same (mEq_same e) (e.1 1 (by omega)) (LW_LI H W)), r1, r2⟩
theorem R_pass (wr : Bool) (ok : okA A) (k0 : Nat) (h8 : gN A 8 < 9999) (e82 : h 82 = A) (hwr : h 81 25 = bB wr) (hkk : h 81 26 = nI k0) (hT : ∀ x, x < gN A 1 → txF (TX x) (h 84) x) : ∃ h' gl', avE 8 251 [.ref 81] (sX L t lt rt rp sw h gl) (none, sX L t lt rt rp sw h' gl') ∧ CF [81, 82, 87, 88, 90, 91] h h' ∧ h' 82 = (psA wr (flA TX A) A).1 ∧ (∀ j, j ≠ 26 → h' 81 j = h 81 j) ∧ h' 81 26 = nI (k0 + (psA wr (flA TX A) A).2) := by
  subst e82
  have tx : ∀ s, s < 3 → txR (h 84) (h 82 2) s (flA TX (h 82) s) := fun s hs => by
    unfold flA
    rcases A2_cases ok with q | ⟨r, hr, e, eg⟩
    · rw [if_pos q]
      exact Or.inl ⟨q, rfl⟩
    · have h4 := gN_le (m := 4) ok.1 (i := 1) (by omega) (by decide)
      have q : ¬ h 82 2 = -1 := by rw [e]; exact nI_ne_m1 (by omega)
      rw [if_neg q, eg]
      exact Or.inr ⟨r, by omega, e, (hT r hr).2 s hs⟩
  exact r_pass wr (flA TX (h 82)) k0 ok.1 h8 hwr hkk tx
end HP
/-- n hours, each a step of its own, till the last hour -/
def hrS (TX : Nat → Txt) : Nat → (Nat → Int32) → Nat → (Nat → Int32) × Nat × Bool
  | 0, A, k => (A, k, true)
  | n + 1, A, k => if gN A 8 = 9999 then (A, k, false) else hrS TX n (psA true (flA TX (kpA A)) (kpA A)).1 (k + (psA true (flA TX (kpA A)) (kpA A)).2)
theorem kp8 {A : Nat → Int32} (H : rOK A) : gN (kpA A) 8 = gN A 8 := gN_c (kpA_lo (Or.inl (by omega)) (by omega) (gN_le (m := 30) H (i := 3) (by omega) (by decide)))
theorem hr1_ok {TX : Nat → Txt} {A : Nat → Int32} (H : okA A) (h8 : ¬ gN A 8 = 9999) : okA (psA true (flA TX (kpA A)) (kpA A)).1 ∧ gN (psA true (flA TX (kpA A)) (kpA A)).1 1 = gN A 1 ∧ gN (psA true (flA TX (kpA A)) (kpA A)).1 8 = gN A 8 + 1 := by
  have hk := okA_keep H
  have l8 := gN_le (m := 9999) H.1 (i := 8) (by omega) (by decide)
  have e := mEq_ps (TX := TX) (wr := true) hk.1
  refine ⟨(mEq_ok hk (KL_keep H.1) e (psA_OK hk.1 (by rw [kp8 H.1]; omega))).1, (gN_c (e.1 1 (by omega))).trans (gN_c (kpA_1 H.1)), ?_⟩
  have : (psA true (flA TX (kpA A)) (kpA A)).1 8 = nI (gN (kpA A) 8 + 1) := va_up_self (p2A true (flA TX (kpA A)) (kpA A)).1 8 (nI (gN (kpA A) 8 + 1))
  rw [gN_nI this (by rw [kp8 H.1]; omega), kp8 H.1]
theorem hrS_ok {TX : Nat → Txt} (n : Nat) : ∀ (A : Nat → Int32) (k : Nat), okA A → okA (hrS TX n A k).1 ∧ gN (hrS TX n A k).1 1 = gN A 1 := by
  induction n with
  | zero => intro A k H; exact ⟨H, rfl⟩
  | succ n ih =>
    intro A k H
    rw [hrS]
    split
    · exact ⟨H, rfl⟩
    · rename_i q
      obtain ⟨o1, o2, _⟩ := hr1_ok (TX := TX) H q
      obtain ⟨p1, p2⟩ := ih _ (k + (psA true (flA TX (kpA A)) (kpA A)).2) o1
      exact ⟨p1, p2.trans o2⟩
theorem hrS_T {TX : Nat → Txt} (n : Nat) : ∀ (A : Nat → Int32) (k : Nat), okA A → gN A 8 + n ≤ 9999 → (hrS TX n A k).2.2 = true := by
  induction n with
  | zero => intro A k H h8; rfl
  | succ n ih =>
    intro A k H h8
    have q : ¬ gN A 8 = 9999 := by omega
    obtain ⟨o1, o2, o3⟩ := hr1_ok (TX := TX) H q
    rw [hrS, if_neg q]
    exact ih _ _ o1 (by omega)
section HQ
variable {L t : Nat} {rt rp : Option Nat} {sw : Bool} {gl : Nat → Nat → Int64} {B : Nat → Int32} {TX : Nat → Txt}
theorem CI_14 {A B : Nat → Int32} {TX : Nat → Txt} {R t : Nat} {lt : Option Nat} {h : Nat → Nat → Int32} (H : CI A B TX R t lt h) : h 14 2 = nI (gN A 8) ∧ gN A 8 ≤ 9999 := ⟨H.2.2.2.1.2.1.2.2.1.trans (gN_eq H.1.1 (by omega) (by decide)), gN_le (m := 9999) H.1.1 (by omega) (by decide)⟩
theorem l_chour (n : Nat) (hn : n ≤ 60) (j : Nat) : ∀ (i kk R : Nat) (A : Nat → Int32) (lt : Option Nat) (h : Nat → Nat → Int32), i + j = n → kk ≤ 5 * i → gN A 8 + j ≤ 9999 → CI A B TX R t lt h → R + j < 67108864 → ∃ h' lt' R', avA 6 96 35 [.ref 7, .int (nI n), .int (nI kk), .int (nI i)] [] (sX L t lt rt rp sw h gl) (some (.int (nI (hrS TX j A kk).2.1)), sX L t lt' rt rp sw h' gl) ∧ CF clS h h' ∧ CI (hrS TX j A kk).1 B TX R' t lt' h' ∧ R ≤ R' ∧ R' ≤ R + j := by
  induction j with
  | zero =>
    intro i kk R A lt h hi hk h8 H hR
    refine ⟨h, lt, R, ?_, CF_refl, H, by omega, by omega⟩
    refine a_iload_3 rfl rfl ?_
    refine a_iload_1 rfl rfl ?_
    refine a_cmpN_ge rfl rfl rfl (by omega) (by omega) (fun _ => ?_) (fun c_37 => False.elim (by omega))
    refine a_iload_2 rfl rfl ?_
    exact a_iret rfl rfl
  | succ j ih =>
    intro i kk R A lt h hi hk h8 H hR
    have q : ¬ gN A 8 = 9999 := by omega
    obtain ⟨h1, C1, c1, H1⟩ := C_keep (L := L) (rt := rt) (rp := rp) (sw := sw) (gl := gl) H
    obtain ⟨h2, R2, C2, c2, H2, r1, r2⟩ := C_pass (L := L) (rt := rt) (rp := rp) (sw := sw) (gl := gl) H1 (KL_keep H.1.1) (by rw [kp8 H.1.1]; omega) (by omega)
    obtain ⟨o1, o2, o3⟩ := hr1_ok (TX := TX) H.1 q
    have l5 : (psA true (flA TX (kpA A)) (kpA A)).2 ≤ 5 := by
      have := lvR_le (wr := true) (kf := kfA (flA TX (kpA A)) (kpA A)) (lf := lfA (flA TX (kpA A)) (kpA A)) (gN (kpA A) 0) 0 (p1A (flA TX (kpA A)) (kpA A)) 0
      have h0 := gN_le (m := 5) H1.1.1 (i := 0) (by omega) (by decide)
      show (p2A true (flA TX (kpA A)) (kpA A)).2 ≤ 5
      unfold p2A
      omega
    obtain ⟨h3, lt3, R3, A3, c3, H3, r3, r4⟩ := ih (i + 1) (kk + (psA true (flA TX (kpA A)) (kpA A)).2) R2 _ _ h2 (by omega) (by omega) (by omega) H2 (by omega)
    rw [hrS, if_neg q]
    have Cr := e_ruling (L := L) (rt := rt) (rp := rp) (sw := sw) (gl := gl) H1
    refine ⟨h3, lt3, R3, ?_, CF_trans (CF_cl rfl c1) (CF_trans c2 c3), H3, by omega, by omega⟩
    cases hro : rlO (kpA A) with
    | none =>
      rw [hro] at Cr C2 A3
      refine a_iload_3 rfl rfl ?_
      refine a_iload_1 rfl rfl ?_
      refine a_cmpN_ge rfl rfl rfl (by omega) (by omega) (fun c_37 => False.elim (by omega)) (fun _ => ?_)
      refine a_aload_0 rfl rfl ?_
      refine a_getr rfl rfl rfl (fun _ _ _ => rfl) rfl ?_
      refine a_virt0 rfl rfl (C1) (Nat.le_of_ble_eq_true rfl) ⟨rfl, rfl, rfl, rfl⟩ rfl rfl rfl (Nat.le_of_ble_eq_true rfl) rfl rfl ?_
      refine a_iload_2 rfl rfl ?_
      refine a_aload_0 rfl rfl ?_
      refine a_getr rfl rfl rfl (fun _ _ _ => rfl) rfl ?_
      refine a_aload_0 rfl rfl ?_
      refine a_virtN rfl rfl (Cr) (Nat.le_of_ble_eq_true rfl) ⟨rfl, rfl, rfl, rfl⟩ rfl rfl rfl (Nat.le_of_ble_eq_true rfl) rfl rfl ?_
      refine a_aload_0 rfl rfl ?_
      refine a_getr rfl rfl rfl (fun _ _ _ => rfl) rfl ?_
      refine a_getr rfl rfl rfl (fun _ _ _ => rfl) rfl ?_
      refine a_virtI rfl rfl (C2) (Nat.le_of_ble_eq_true rfl) ⟨rfl, rfl, rfl, rfl⟩ rfl rfl rfl (Nat.le_of_ble_eq_true rfl) rfl rfl ?_
      refine a_iaddN rfl rfl ?_
      refine a_istore_2 rfl rfl rfl ?_
      refine a_iinc_3 rfl rfl (nI_inc _ _) rfl ?_
      refine a_goto rfl rfl ?_
      exact A3
    | some o =>
      rw [hro] at Cr C2 A3
      refine a_iload_3 rfl rfl ?_
      refine a_iload_1 rfl rfl ?_
      refine a_cmpN_ge rfl rfl rfl (by omega) (by omega) (fun c_37 => False.elim (by omega)) (fun _ => ?_)
      refine a_aload_0 rfl rfl ?_
      refine a_getr rfl rfl rfl (fun _ _ _ => rfl) rfl ?_
      refine a_virt0 rfl rfl (C1) (Nat.le_of_ble_eq_true rfl) ⟨rfl, rfl, rfl, rfl⟩ rfl rfl rfl (Nat.le_of_ble_eq_true rfl) rfl rfl ?_
      refine a_iload_2 rfl rfl ?_
      refine a_aload_0 rfl rfl ?_
      refine a_getr rfl rfl rfl (fun _ _ _ => rfl) rfl ?_
      refine a_aload_0 rfl rfl ?_
      refine a_virtR rfl rfl (Cr) (Nat.le_of_ble_eq_true rfl) ⟨rfl, rfl, rfl, rfl⟩ rfl rfl rfl (Nat.le_of_ble_eq_true rfl) rfl rfl ?_
      refine a_aload_0 rfl rfl ?_
      refine a_getr rfl rfl rfl (fun _ _ _ => rfl) rfl ?_
      refine a_getr rfl rfl rfl (fun _ _ _ => rfl) rfl ?_
      refine a_virtI rfl rfl (C2) (Nat.le_of_ble_eq_true rfl) ⟨rfl, rfl, rfl, rfl⟩ rfl rfl rfl (Nat.le_of_ble_eq_true rfl) rfl rfl ?_
      refine a_iaddN rfl rfl ?_
      refine a_istore_2 rfl rfl rfl ?_
      refine a_iinc_3 rfl rfl (nI_inc _ _) rfl ?_
      refine a_goto rfl rfl ?_
      exact A3
theorem l_play (n : Nat) (hn : n ≤ 60) (y1 : Value) (v3 : Int32) (j : Nat) : ∀ (i kk R : Nat) (A : Nat → Int32) (lt : Option Nat) (h : Nat → Nat → Int32), i + j = n → CI A B TX R t lt h → R + j < 67108864 → ∃ h' lt' R', avA 6 114 143 [.ref 7, y1, .int (nI n), .int v3, .int (nI i)] [] (sX L t lt rt rp sw h gl) (some (.int (bB (hrS TX j A kk).2.2)), sX L t lt' rt rp sw h' gl) ∧ CF clS h h' ∧ CI (hrS TX j A kk).1 B TX R' t lt' h' ∧ R ≤ R' ∧ R' ≤ R + j := by
  induction j with
  | zero =>
    intro i kk R A lt h hi H hR
    refine ⟨h, lt, R, ?_, CF_refl, H, by omega, by omega⟩
    refine a_iload_4 rfl rfl ?_
    refine a_iload_2 rfl rfl ?_
    refine a_cmpN_ge rfl rfl rfl (by omega) (by omega) (fun _ => ?_) (fun c_146 => False.elim (by omega))
    refine a_iconst (v := (nI 1)) rfl rfl rfl ?_
    exact a_zret rfl rfl (Or.inr rfl)
  | succ j ih =>
    intro i kk R A lt h hi H hR
    obtain ⟨e8, l8⟩ := CI_14 H
    rw [hrS]
    by_cases q : gN A 8 = 9999
    · rw [if_pos q]
      refine ⟨h, lt, R, ?_, CF_refl, H, by omega, by omega⟩
      refine a_iload_4 rfl rfl ?_
      refine a_iload_2 rfl rfl ?_
      refine a_cmpN_ge rfl rfl rfl (by omega) (by omega) (fun c_146 => False.elim (by omega)) (fun _ => ?_)
      refine a_aload_0 rfl rfl ?_
      refine a_getr rfl rfl rfl (fun _ _ _ => rfl) rfl ?_
      refine a_getr rfl rfl rfl (fun _ _ _ => rfl) rfl ?_
      refine a_geti rfl rfl rfl (fun _ _ _ => rfl) ?_
      refine a_as (y := nI (gN A 8)) e8 ?_
      refine a_sipush (v := (nI 9999)) rfl rfl rfl ?_
      refine a_cmpN_lt rfl rfl rfl (by omega) (by omega) (fun c_162 => False.elim (by omega)) (fun _ => ?_)
      refine a_iconst (v := (nI 0)) rfl rfl rfl ?_
      exact a_zret rfl rfl (Or.inl rfl)
    · rw [if_neg q]
      obtain ⟨h1, C1, c1, H1⟩ := C_keep (L := L) (rt := rt) (rp := rp) (sw := sw) (gl := gl) H
      obtain ⟨h2, R2, C2, c2, H2, r1, r2⟩ := C_pass (L := L) (rt := rt) (rp := rp) (sw := sw) (gl := gl) H1 (KL_keep H.1.1) (by rw [kp8 H.1.1]; omega) (by omega)
      obtain ⟨h3, lt3, R3, A3, c3, H3, r3, r4⟩ := ih (i + 1) (kk + (psA true (flA TX (kpA A)) (kpA A)).2) R2 _ _ h2 (by omega) H2 (by omega)
      have Cr := e_ruling (L := L) (rt := rt) (rp := rp) (sw := sw) (gl := gl) H1
      refine ⟨h3, lt3, R3, ?_, CF_trans (CF_cl rfl c1) (CF_trans c2 c3), H3, by omega, by omega⟩
      cases hro : rlO (kpA A) with
      | none =>
        rw [hro] at Cr C2 A3
        refine a_iload_4 rfl rfl ?_
        refine a_iload_2 rfl rfl ?_
        refine a_cmpN_ge rfl rfl rfl (by omega) (by omega) (fun c_146 => False.elim (by omega)) (fun _ => ?_)
        refine a_aload_0 rfl rfl ?_
        refine a_getr rfl rfl rfl (fun _ _ _ => rfl) rfl ?_
        refine a_getr rfl rfl rfl (fun _ _ _ => rfl) rfl ?_
        refine a_geti rfl rfl rfl (fun _ _ _ => rfl) ?_
        refine a_as (y := nI (gN A 8)) e8 ?_
        refine a_sipush (v := (nI 9999)) rfl rfl rfl ?_
        refine a_cmpN_lt rfl rfl rfl (by omega) (by omega) (fun _ => ?_) (fun c_162 => False.elim (by omega))
        refine a_aload_0 rfl rfl ?_
        refine a_getr rfl rfl rfl (fun _ _ _ => rfl) rfl ?_
        refine a_virt0 rfl rfl (C1) (Nat.le_of_ble_eq_true rfl) ⟨rfl, rfl, rfl, rfl⟩ rfl rfl rfl (Nat.le_of_ble_eq_true rfl) rfl rfl ?_
        refine a_aload_0 rfl rfl ?_
        refine a_getr rfl rfl rfl (fun _ _ _ => rfl) rfl ?_
        refine a_aload_0 rfl rfl ?_
        refine a_virtN rfl rfl (Cr) (Nat.le_of_ble_eq_true rfl) ⟨rfl, rfl, rfl, rfl⟩ rfl rfl rfl (Nat.le_of_ble_eq_true rfl) rfl rfl ?_
        refine a_aload_0 rfl rfl ?_
        refine a_getr rfl rfl rfl (fun _ _ _ => rfl) rfl ?_
        refine a_getr rfl rfl rfl (fun _ _ _ => rfl) rfl ?_
        refine a_virtI rfl rfl (C2) (Nat.le_of_ble_eq_true rfl) ⟨rfl, rfl, rfl, rfl⟩ rfl rfl rfl (Nat.le_of_ble_eq_true rfl) rfl rfl ?_
        refine a_pop rfl rfl rfl ?_
        refine a_iinc_4 rfl rfl (nI_inc _ _) rfl ?_
        refine a_goto rfl rfl ?_
        exact A3
      | some o =>
        rw [hro] at Cr C2 A3
        refine a_iload_4 rfl rfl ?_
        refine a_iload_2 rfl rfl ?_
        refine a_cmpN_ge rfl rfl rfl (by omega) (by omega) (fun c_146 => False.elim (by omega)) (fun _ => ?_)
        refine a_aload_0 rfl rfl ?_
        refine a_getr rfl rfl rfl (fun _ _ _ => rfl) rfl ?_
        refine a_getr rfl rfl rfl (fun _ _ _ => rfl) rfl ?_
        refine a_geti rfl rfl rfl (fun _ _ _ => rfl) ?_
        refine a_as (y := nI (gN A 8)) e8 ?_
        refine a_sipush (v := (nI 9999)) rfl rfl rfl ?_
        refine a_cmpN_lt rfl rfl rfl (by omega) (by omega) (fun _ => ?_) (fun c_162 => False.elim (by omega))
        refine a_aload_0 rfl rfl ?_
        refine a_getr rfl rfl rfl (fun _ _ _ => rfl) rfl ?_
        refine a_virt0 rfl rfl (C1) (Nat.le_of_ble_eq_true rfl) ⟨rfl, rfl, rfl, rfl⟩ rfl rfl rfl (Nat.le_of_ble_eq_true rfl) rfl rfl ?_
        refine a_aload_0 rfl rfl ?_
        refine a_getr rfl rfl rfl (fun _ _ _ => rfl) rfl ?_
        refine a_aload_0 rfl rfl ?_
        refine a_virtR rfl rfl (Cr) (Nat.le_of_ble_eq_true rfl) ⟨rfl, rfl, rfl, rfl⟩ rfl rfl rfl (Nat.le_of_ble_eq_true rfl) rfl rfl ?_
        refine a_aload_0 rfl rfl ?_
        refine a_getr rfl rfl rfl (fun _ _ _ => rfl) rfl ?_
        refine a_getr rfl rfl rfl (fun _ _ _ => rfl) rfl ?_
        refine a_virtI rfl rfl (C2) (Nat.le_of_ble_eq_true rfl) ⟨rfl, rfl, rfl, rfl⟩ rfl rfl rfl (Nat.le_of_ble_eq_true rfl) rfl rfl ?_
        refine a_pop rfl rfl rfl ?_
        refine a_iinc_4 rfl rfl (nI_inc _ _) rfl ?_
        refine a_goto rfl rfl ?_
        exact A3
theorem l_rhours (n : Nat) (hn : n ≤ 60) {lt : Option Nat} (j : Nat) : ∀ (i kk : Nat) (A : Nat → Int32) (h : Nat → Nat → Int32) (gl : Nat → Nat → Int64), i + j = n → okA A → RI A B TX h → h 81 26 = nI kk → ∃ h' gl', avA 9 250 7 [.ref 81, .int (nI n), .int (nI i)] [] (sX L t lt rt rp sw h gl) (some (.int (bB (hrS TX j A kk).2.2)), sX L t lt rt rp sw h' gl') ∧ CF rfS h h' ∧ (∀ j, j ≠ 26 → h' 81 j = h 81 j) ∧ RI (hrS TX j A kk).1 B TX h' ∧ h' 81 26 = nI (hrS TX j A kk).2.1 := by
  induction j with
  | zero =>
    intro i kk A h gl hi ok H hk
    refine ⟨h, gl, ?_, CF_refl, fun _ _ => rfl, H, hk⟩
    refine a_iload_2 rfl rfl ?_
    refine a_iload_1 rfl rfl ?_
    refine a_cmpN_ge rfl rfl rfl (by omega) (by omega) (fun _ => ?_) (fun c_9 => False.elim (by omega))
    refine a_iconst (v := (nI 1)) rfl rfl rfl ?_
    exact a_zret rfl rfl (Or.inr rfl)
  | succ j ih =>
    intro i kk A h gl hi ok H hk
    have l8 := gN_le (m := 9999) ok.1 (i := 8) (by omega) (by decide)
    have e8 : h 82 8 = nI (gN A 8) := by rw [H.1]; exact gN_eq ok.1 (by omega) (by decide)
    rw [hrS]
    by_cases q : gN A 8 = 9999
    · rw [if_pos q]
      refine ⟨h, gl, ?_, CF_refl, fun _ _ => rfl, H, hk⟩
      refine a_iload_2 rfl rfl ?_
      refine a_iload_1 rfl rfl ?_
      refine a_cmpN_ge rfl rfl rfl (by omega) (by omega) (fun c_9 => False.elim (by omega)) (fun _ => ?_)
      refine a_aload_0 rfl rfl ?_
      refine a_getr rfl rfl rfl (fun _ _ _ => rfl) rfl ?_
      refine a_bipush (v := (nI 8)) rfl rfl rfl ?_
      refine a_iald rfl rfl (Or.inl rfl) rfl (by omega) (by decide) ?_
      refine a_as (y := nI (gN A 8)) e8 ?_
      refine a_sipush (v := (nI 9999)) rfl rfl rfl ?_
      refine a_cmpN_ne rfl rfl rfl (by omega) (by omega) (fun c_22 => False.elim (by omega)) (fun _ => ?_)
      refine a_iconst (v := (nI 0)) rfl rfl rfl ?_
      exact a_zret rfl rfl (Or.inl rfl)
    · rw [if_neg q]
      obtain ⟨C1, H1⟩ := R_keep (L := L) (t := t) (lt := lt) (rt := rt) (rp := rp) (sw := sw) (gl := gl) ok H
      obtain ⟨h2, gl2, C2, c2, d2, d3, d4⟩ := R_pass (L := L) (t := t) (lt := lt) (rt := rt) (rp := rp) (sw := sw) (gl := gl) (TX := TX) true (okA_keep ok) kk (by rw [kp8 ok.1]; omega) H1.1 H1.2.2.1 hk H1.2.2.2
      have e := mEq_ps (TX := TX) (wr := true) (okA_keep ok).1
      have H2 : RI (psA true (flA TX (kpA A)) (kpA A)).1 B TX h2 := RI_up H1 d2 (c2 83 rfl) (c2 84 rfl) (d3 25 (by omega)) (e.1 1 (by omega))
      obtain ⟨h3, gl3, A3, c3, g1, g2, g3⟩ := ih (i + 1) (kk + (psA true (flA TX (kpA A)) (kpA A)).2) _ h2 gl2 (by omega) (hr1_ok (TX := TX) ok q).1 H2 d4
      refine ⟨h3, gl3, ?_, CF_trans (CF_up CF_refl rfl) (CF_trans (CF_rf rfl c2) c3), fun j hj => (g1 j hj).trans (d3 j hj), g2, g3⟩
      refine a_iload_2 rfl rfl ?_
      refine a_iload_1 rfl rfl ?_
      refine a_cmpN_ge rfl rfl rfl (by omega) (by omega) (fun c_9 => False.elim (by omega)) (fun _ => ?_)
      refine a_aload_0 rfl rfl ?_
      refine a_getr rfl rfl rfl (fun _ _ _ => rfl) rfl ?_
      refine a_bipush (v := (nI 8)) rfl rfl rfl ?_
      refine a_iald rfl rfl (Or.inl rfl) rfl (by omega) (by decide) ?_
      refine a_as (y := nI (gN A 8)) e8 ?_
      refine a_sipush (v := (nI 9999)) rfl rfl rfl ?_
      refine a_cmpN_ne rfl rfl rfl (by omega) (by omega) (fun _ => ?_) (fun c_22 => False.elim (by omega))
      refine a_aload_0 rfl rfl ?_
      refine a_virt0 rfl rfl (C1) (Nat.le_of_ble_eq_true rfl) ⟨rfl, rfl, rfl, rfl⟩ rfl rfl rfl (Nat.le_of_ble_eq_true rfl) rfl rfl ?_
      refine a_aload_0 rfl rfl ?_
      refine a_virt0 rfl rfl (C2) (Nat.le_of_ble_eq_true rfl) ⟨rfl, rfl, rfl, rfl⟩ rfl rfl rfl (Nat.le_of_ble_eq_true rfl) rfl rfl ?_
      refine a_iinc_2 rfl rfl (nI_inc _ _) rfl ?_
      refine a_goto rfl rfl ?_
      exact A3
theorem r_hours (n : Nat) (hn : n ≤ 60) {A : Nat → Int32} {lt : Option Nat} {h : Nat → Nat → Int32} (ok : okA A) (H : RI A B TX h) : ∃ h' gl', avE 9 250 [.ref 81, .int (nI n)] (sX L t lt rt rp sw h gl) (some (.int (bB (hrS TX n A 0).2.2)), sX L t lt rt rp sw h' gl') ∧ CF rfS h h' ∧ (∀ j, j ≠ 26 → h' 81 j = h 81 j) ∧ RI (hrS TX n A 0).1 B TX h' ∧ h' 81 26 = nI (hrS TX n A 0).2.1 := by
  have H0 : RI A B TX (mvPut h 81 26 (nI 0)) := RI_up H H.1 rfl rfl rfl rfl
  obtain ⟨h', gl', A1, c1, d1, d2, d3⟩ := l_rhours (L := L) (t := t) (rt := rt) (rp := rp) (sw := sw) (B := B) (TX := TX) n hn (lt := lt) n 0 0 A (mvPut h 81 26 (nI 0)) gl (by omega) ok H0 rfl
  refine ⟨h', gl', ?_, CF_trans (CF_put CF_refl rfl) c1, fun j hj => (d1 j hj).trans (va_up_ne _ _ hj), d2, d3⟩
  show avA _ 250 0 [.ref 81, .int (nI (n)), mvU] [] _ _
  refine a_aload_0 rfl rfl ?_
  refine a_iconst (v := (nI 0)) rfl rfl rfl ?_
  refine a_puti rfl rfl rfl rfl ?_
  refine a_iconst (v := (nI 0)) rfl rfl rfl ?_
  refine a_istore_2 rfl rfl rfl ?_
  exact A1
end HQ
section HH
variable {A B : Nat → Int32} {TX : Nat → Txt}
theorem p_hour (hA : okA A) (n : Int32) : ∃ r A', opP 60 6 96 [.ref 7, .int n] 10 249 [.ref 81, .int n] TX A B r A' B := by
  have l8 := gN_le (m := 9999) hA.1 (i := 8) (by omega) (by decide)
  have e8 : A 8 = nI (gN A 8) := gN_eq hA.1 (by omega) (by decide)
  by_cases hn : 1 ≤ n.toInt ∧ n.toInt ≤ 60 ∧ (gN A 8 : Int) + n.toInt ≤ 9999
  · obtain ⟨m, hm, rfl, em⟩ := cell_of (x := n) (m := 61) (by omega) (by omega)
    rw [nI_toInt (by omega)] at hn
    obtain ⟨o1, o2⟩ := hrS_ok (TX := TX) m A 0 hA
    have ht := hrS_T (TX := TX) m A 0 hA (by omega)
    refine ⟨nI (hrS TX m A 0).2.1, (hrS TX m A 0).1, ?_, ?_, o1, o2⟩
    · intro L t lt rt rp sw h gl R H hR
      obtain ⟨e14, _⟩ := CI_14 H
      obtain ⟨h', lt', R', A1, c, H', r1, r2⟩ := l_chour (L := L) (t := t) (rt := rt) (rp := rp) (sw := sw) (gl := gl) (B := B) (TX := TX) m (by omega) m 0 0 R A lt h (by omega) (by omega) (by omega) H (by omega)
      refine ⟨h', lt', R', sw, ?_, c, H', by omega, by omega⟩
      show avA _ 96 0 [.ref 7, .int (nI (m)), mvU, mvU] [] _ _
      refine a_iload_1 rfl rfl ?_
      refine a_iconst (v := (nI 1)) rfl rfl rfl ?_
      refine a_cmpN_lt rfl rfl rfl (by omega) (by omega) (fun c_2 => False.elim (by omega)) (fun _ => ?_)
      refine a_iload_1 rfl rfl ?_
      refine a_bipush (v := (nI 60)) rfl rfl rfl ?_
      refine a_cmpN_gt rfl rfl rfl (by omega) (by omega) (fun c_8 => False.elim (by omega)) (fun _ => ?_)
      refine a_aload_0 rfl rfl ?_
      refine a_getr rfl rfl rfl (fun _ _ _ => rfl) rfl ?_
      refine a_getr rfl rfl rfl (fun _ _ _ => rfl) rfl ?_
      refine a_geti rfl rfl rfl (fun _ _ _ => rfl) ?_
      refine a_as (y := nI (gN A 8)) e14 ?_
      refine a_iload_1 rfl rfl ?_
      refine a_iaddN rfl rfl ?_
      refine a_sipush (v := (nI 9999)) rfl rfl rfl ?_
      refine a_cmpN_le rfl rfl rfl (by omega) (by omega) (fun _ => ?_) (fun c_26 => False.elim (by omega))
      refine a_iconst (v := (nI 0)) rfl rfl rfl ?_
      refine a_istore_2 rfl rfl rfl ?_
      refine a_iconst (v := (nI 0)) rfl rfl rfl ?_
      refine a_istore_3 rfl rfl rfl ?_
      exact A1
    · intro L t lt rt rp sw h gl ok H
      obtain ⟨h', gl', C, c, d, H', dk⟩ := r_hours (L := L) (t := t) (lt := lt) (rt := rt) (rp := rp) (sw := sw) (gl := gl) m (by omega) ok H
      refine ⟨h', gl', ?_, c, d, H'⟩
      rw [ht] at C
      show avA _ 249 0 [.ref 81, .int (nI (m))] [] _ _
      refine a_iload_1 rfl rfl ?_
      refine a_iconst (v := (nI 1)) rfl rfl rfl ?_
      refine a_bipush (v := (nI 60)) rfl rfl rfl ?_
      refine a_statI rfl rfl (r_isIn0 (nI m) 1 60 (by omega) (by omega)) (Nat.le_of_ble_eq_true rfl) ⟨rfl, rfl, rfl⟩ rfl rfl rfl (Nat.le_of_ble_eq_true rfl) rfl ?_
      refine a_ifb_eq rfl rfl rfl (fun c_7 => by first | exact absurd c_7 (not_not_intro (by rw [nI_toInt (by omega)]; omega)) | exact absurd (not_not_intro (by rw [nI_toInt (by omega)]; omega)) c_7) (fun _ => ?_)
      refine a_aload_0 rfl rfl ?_
      refine a_getr rfl rfl rfl (fun _ _ _ => rfl) rfl ?_
      refine a_bipush (v := (nI 8)) rfl rfl rfl ?_
      refine a_iald rfl rfl (Or.inl rfl) rfl (by omega) (by decide) ?_
      refine a_as (y := nI (gN A 8)) (by rw [H.1]; exact e8) ?_
      refine a_iload_1 rfl rfl ?_
      refine a_iaddN rfl rfl ?_
      refine a_sipush (v := (nI 9999)) rfl rfl rfl ?_
      refine a_cmpN_gt rfl rfl rfl (by omega) (by omega) (fun c_22 => False.elim (by omega)) (fun _ => ?_)
      refine a_aload_0 rfl rfl ?_
      refine a_iload_1 rfl rfl ?_
      refine a_virtI rfl rfl (C) (Nat.le_of_ble_eq_true rfl) ⟨rfl, rfl, rfl, rfl⟩ rfl rfl rfl (Nat.le_of_ble_eq_true rfl) rfl rfl ?_
      refine a_ifN_eq rfl rfl rfl (by decide) (fun c_30 => False.elim (absurd c_30 (by decide))) (fun _ => ?_)
      refine a_aload_0 rfl rfl ?_
      refine a_geti rfl rfl rfl (fun _ _ _ => rfl) ?_
      refine a_as (y := nI (hrS TX m A 0).2.1) dk ?_
      refine a_goto rfl rfl ?_
      exact a_iret rfl rfl
  · refine ⟨-1, A, ?_, ?_, hA, rfl⟩
    · intro L t lt rt rp sw h gl R H hR
      obtain ⟨e14, _⟩ := CI_14 H
      refine ⟨h, lt, R, sw, ?_, CF_refl, H, by omega, by omega⟩
      by_cases h1 : 1 ≤ n.toInt ∧ n.toInt ≤ 60
      · obtain ⟨m, hm, rfl, em⟩ := cell_of (x := n) (m := 61) (by omega) (by omega)
        rw [nI_toInt (by omega)] at hn h1
        show avA _ 96 0 [.ref 7, .int (nI (m)), mvU, mvU] [] _ _
        refine a_iload_1 rfl rfl ?_
        refine a_iconst (v := (nI 1)) rfl rfl rfl ?_
        refine a_cmpN_lt rfl rfl rfl (by omega) (by omega) (fun c_2 => False.elim (by omega)) (fun _ => ?_)
        refine a_iload_1 rfl rfl ?_
        refine a_bipush (v := (nI 60)) rfl rfl rfl ?_
        refine a_cmpN_gt rfl rfl rfl (by omega) (by omega) (fun c_8 => False.elim (by omega)) (fun _ => ?_)
        refine a_aload_0 rfl rfl ?_
        refine a_getr rfl rfl rfl (fun _ _ _ => rfl) rfl ?_
        refine a_getr rfl rfl rfl (fun _ _ _ => rfl) rfl ?_
        refine a_geti rfl rfl rfl (fun _ _ _ => rfl) ?_
        refine a_as (y := nI (gN A 8)) e14 ?_
        refine a_iload_1 rfl rfl ?_
        refine a_iaddN rfl rfl ?_
        refine a_sipush (v := (nI 9999)) rfl rfl rfl ?_
        refine a_cmpN_le rfl rfl rfl (by omega) (by omega) (fun c_26 => False.elim (by omega)) (fun _ => ?_)
        refine a_iconst (v := (-1)) rfl rfl rfl ?_
        exact a_iret rfl rfl
      · show avA _ 96 0 [.ref 7, .int (n), mvU, mvU] [] _ _
        refine a_iload_1 rfl rfl ?_
        refine a_iconst (v := (nI 1)) rfl rfl rfl ?_
        refine a_cmpI_lt rfl rfl rfl rfl (nI_toInt (by omega)) (fun c_2 => ?_) (fun c_2 => ?_)
        · refine a_iconst (v := (-1)) rfl rfl rfl ?_
          exact a_iret rfl rfl
        · refine a_iload_1 rfl rfl ?_
          refine a_bipush (v := (nI 60)) rfl rfl rfl ?_
          refine a_cmpI_gt rfl rfl rfl rfl (nI_toInt (by omega)) (fun _ => ?_) (fun c_8 => False.elim (by omega))
          refine a_iconst (v := (-1)) rfl rfl rfl ?_
          exact a_iret rfl rfl
    · intro L t lt rt rp sw h gl ok H
      refine ⟨h, gl, ?_, CF_refl, fun _ _ => rfl, H⟩
      by_cases h1 : 1 ≤ n.toInt ∧ n.toInt ≤ 60
      · obtain ⟨m, hm, rfl, em⟩ := cell_of (x := n) (m := 61) (by omega) (by omega)
        rw [nI_toInt (by omega)] at hn h1
        show avA _ 249 0 [.ref 81, .int (nI (m))] [] _ _
        refine a_iload_1 rfl rfl ?_
        refine a_iconst (v := (nI 1)) rfl rfl rfl ?_
        refine a_bipush (v := (nI 60)) rfl rfl rfl ?_
        refine a_statI rfl rfl (r_isIn0 (nI m) 1 60 (by omega) (by omega)) (Nat.le_of_ble_eq_true rfl) ⟨rfl, rfl, rfl⟩ rfl rfl rfl (Nat.le_of_ble_eq_true rfl) rfl ?_
        refine a_ifb_eq rfl rfl rfl (fun c_7 => by first | exact absurd c_7 (not_not_intro (by rw [nI_toInt (by omega)]; omega)) | exact absurd (not_not_intro (by rw [nI_toInt (by omega)]; omega)) c_7) (fun _ => ?_)
        refine a_aload_0 rfl rfl ?_
        refine a_getr rfl rfl rfl (fun _ _ _ => rfl) rfl ?_
        refine a_bipush (v := (nI 8)) rfl rfl rfl ?_
        refine a_iald rfl rfl (Or.inl rfl) rfl (by omega) (by decide) ?_
        refine a_as (y := nI (gN A 8)) (by rw [H.1]; exact e8) ?_
        refine a_iload_1 rfl rfl ?_
        refine a_iaddN rfl rfl ?_
        refine a_sipush (v := (nI 9999)) rfl rfl rfl ?_
        refine a_cmpN_gt rfl rfl rfl (by omega) (by omega) (fun _ => ?_) (fun c_22 => False.elim (by omega))
        refine a_iconst (v := (-1)) rfl rfl rfl ?_
        exact a_iret rfl rfl
      · show avA _ 249 0 [.ref 81, .int (n)] [] _ _
        refine a_iload_1 rfl rfl ?_
        refine a_iconst (v := (nI 1)) rfl rfl rfl ?_
        refine a_bipush (v := (nI 60)) rfl rfl rfl ?_
        refine a_statI rfl rfl (r_isIn0 n 1 60 (by omega) (by omega)) (Nat.le_of_ble_eq_true rfl) ⟨rfl, rfl, rfl⟩ rfl rfl rfl (Nat.le_of_ble_eq_true rfl) rfl ?_
        refine a_ifb_eq rfl rfl rfl (fun _ => ?_) (fun c_7 => by first | exact absurd h1 c_7 | exact absurd c_7 h1)
        refine a_iconst (v := (-1)) rfl rfl rfl ?_
        exact a_iret rfl rfl
end HH
