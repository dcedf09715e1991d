/-! HOURS PASS: the class's passHour and the reference's pass -/
def stay (i : Nat) : Prop := i < 1696 ∧ i ≠ 12 ∧ i ≠ 11 ∧ i ≠ 10 ∧ ∀ b, b < 5 → i ≠ 14 + 5 * b ∧ i ≠ 15 + 5 * b
theorem stay_of {i : Nat} (h : i < 10 ∨ (38 ≤ i ∧ i < 1696)) : stay i := by
  refine ⟨by omega, by omega, by omega, by omega, fun b hb => ⟨by omega, by omega⟩⟩
theorem stay_at {b : Nat} (hb : b < 5) : stay (13 + 5 * b) := by
  refine ⟨by omega, by omega, by omega, by omega, fun c hc => ⟨by omega, by omega⟩⟩
theorem stay_tat {b : Nat} (hb : b < 5) : stay (16 + 5 * b) := by
  refine ⟨by omega, by omega, by omega, by omega, fun c hc => ⟨by omega, by omega⟩⟩
theorem stay_tm {b : Nat} (hb : b < 5) : stay (17 + 5 * b) := by
  refine ⟨by omega, by omega, by omega, by omega, fun c hc => ⟨by omega, by omega⟩⟩
theorem lvR_lo {wr : Bool} {kf lf : (Nat → Int32) → Nat → Nat} {i : Nat} (hi : stay i) (j : Nat) : ∀ (b : Nat) (B : Nat → Int32) (kk : Nat), b + j ≤ 5 → (lvR wr kf lf j b B kk).1 i = B i := by
  induction j with
  | zero => intro b B kk _; rfl
  | succ j ih =>
    intro b B kk hb
    rw [lvR, ih _ _ _ (by omega)]
    exact lvA_lo hi.1 hi.2.1 hi.2.2.1 hi.2.2.2.1 (hi.2.2.2.2 b (by omega)).1 (hi.2.2.2.2 b (by omega)).2
theorem lvR_OK {wr : Bool} {kf lf : (Nat → Int32) → Nat → Nat} (hl : ∀ B b, lf B b ≤ 15) (j : Nat) : ∀ (b : Nat) (B : Nat → Int32) (kk : Nat), b + j ≤ 5 → rOK B → rOK (lvR wr kf lf j b B kk).1 := by
  induction j with
  | zero => intro b B kk _ h; exact h
  | succ j ih =>
    intro b B kk hb h
    rw [lvR]
    exact ih _ _ _ (by omega) (lvA_OK (by omega) (hl _ _) h)
theorem lvR_le {wr : Bool} {kf lf : (Nat → Int32) → Nat → Nat} (j : Nat) : ∀ (b : Nat) (B : Nat → Int32) (kk : Nat), (lvR wr kf lf j b B kk).2 ≤ kk + j := by
  induction j with
  | zero => intro b B kk; exact Nat.le_refl _
  | succ j ih =>
    intro b B kk
    rw [lvR]
    have := ih (b + 1) (lvA wr (kf B b) (lf B b) b B) (kk + (if gN B 11 % 10 < kf B b then 1 else 0))
    split at this <;> split <;> omega
theorem lfA_le (fl : Nat → Option (E1 → Int)) (A : Nat → Int32) (B : Nat → Int32) (b : Nat) : lfA fl A B b ≤ 15 := ltC_le _ _ _ _ _ _
theorem p1A_OK {fl : Nat → Option (E1 → Int)} {A : Nat → Int32} (H : rOK A) : rOK (p1A fl A) := by
  unfold p1A
  split
  · exact H
  · exact rOK_up H (inB_nI (m := 9999) rfl (by omega) (by omega))
theorem p1A_ne {fl : Nat → Option (E1 → Int)} {A : Nat → Int32} {i : Nat} (hi : i ≠ 10) : p1A fl A i = A i := by
  unfold p1A
  split
  · rfl
  · exact va_up_ne _ _ hi
theorem p2A_OK {wr : Bool} {fl : Nat → Option (E1 → Int)} {A : Nat → Int32} (H : rOK A) : rOK (p2A wr fl A).1 := lvR_OK (lfA_le fl A) _ _ _ _ (by have := gN_le (m := 5) H (i := 0) (by omega) (by decide); omega) (p1A_OK H)
theorem p2A_lo {wr : Bool} {fl : Nat → Option (E1 → Int)} {A : Nat → Int32} (H : rOK A) {i : Nat} (hi : stay i) : (p2A wr fl A).1 i = A i := by
  unfold p2A
  rw [lvR_lo hi _ _ _ _ (by have := gN_le (m := 5) H (i := 0) (by omega) (by decide); omega), p1A_ne hi.2.2.2.1]
theorem psA_OK {wr : Bool} {fl : Nat → Option (E1 → Int)} {A : Nat → Int32} (H : rOK A) (h8 : gN A 8 < 9999) : rOK (psA wr fl A).1 := rOK_up (p2A_OK H) (inB_nI (m := 9999) rfl (by omega) (by omega))
theorem psA_lo {wr : Bool} {fl : Nat → Option (E1 → Int)} {A : Nat → Int32} (H : rOK A) {i : Nat} (hi : stay i) (h8 : i ≠ 8) : (psA wr fl A).1 i = A i := by
  show va_up (p2A wr fl A).1 8 _ i = A i
  rw [va_up_ne _ _ h8]
  exact p2A_lo H hi
theorem psA_ne {wr : Bool} {fl : Nat → Option (E1 → Int)} {A : Nat → Int32} {i : Nat} (hi : i ≠ 8) : (psA wr fl A).1 i = (p2A wr fl A).1 i := va_up_ne (p2A wr fl A).1 (nI (gN A 8 + 1)) hi
theorem MR_up {m : Nat} {A : Nat → Int32} {h : Nat → Nat → Int32} {v : Int32} (H : MR m A h) : MR m (va_up A 10 v) (mvPut h m 1 v) := by
  obtain ⟨a0, a1, a2, a3, a4, ab⟩ := H
  have e : ∀ k, k ≠ 1 → mvPut h m 1 v m k = h m k := fun k hk => by unfold mvPut; rw [va_up_self, va_up_ne _ _ hk]
  have e2 : ∀ p, p ≠ m → mvPut h m 1 v p = h p := fun p hp => by unfold mvPut; rw [va_up_ne _ _ hp]
  refine ⟨?_, ?_, ?_, ?_, ?_, fun b hb => ?_⟩
  · rw [e 0 (by omega), va_up_ne _ _ (by omega)]; exact a0
  · unfold mvPut; rw [va_up_self, va_up_self, va_up_self]
  · rw [e 2 (by omega), va_up_ne _ _ (by omega)]; exact a2
  · rw [e 3 (by omega), va_up_ne _ _ (by omega)]; exact a3
  · rw [e 4 (by omega), va_up_ne _ _ (by omega)]; exact a4
  · rw [e2 _ (by omega), e2 _ (by omega), e2 _ (by omega), va_up_ne _ _ (by omega), va_up_ne _ _ (by omega), va_up_ne _ _ (by omega)]
    exact ab b (by rw [gN_ne (by omega)] at hb; exact hb)
theorem MR_hour {m : Nat} {A : Nat → Int32} {h : Nat → Nat → Int32} {v : Int32} (H : MR m A h) : MR m (va_up A 8 v) (mvPut h m 2 v) := by
  obtain ⟨a0, a1, a2, a3, a4, ab⟩ := H
  have e : ∀ k, k ≠ 2 → mvPut h m 2 v m k = h m k := fun k hk => by unfold mvPut; rw [va_up_self, va_up_ne _ _ hk]
  have e2 : ∀ p, p ≠ m → mvPut h m 2 v p = h p := fun p hp => by unfold mvPut; rw [va_up_ne _ _ hp]
  refine ⟨?_, ?_, ?_, ?_, ?_, fun b hb => ?_⟩
  · rw [e 0 (by omega), va_up_ne _ _ (by omega)]; exact a0
  · rw [e 1 (by omega), va_up_ne _ _ (by omega)]; exact a1
  · unfold mvPut; rw [va_up_self, va_up_self, va_up_self]
  · rw [e 3 (by omega), va_up_ne _ _ (by omega)]; exact a3
  · rw [e 4 (by omega), va_up_ne _ _ (by omega)]; exact a4
  · rw [e2 _ (by omega), e2 _ (by omega), e2 _ (by omega), va_up_ne _ _ (by omega), va_up_ne _ _ (by omega), va_up_ne _ _ (by omega)]
    exact ab b (by rw [gN_ne (by omega)] at hb; exact hb)
theorem MR_cf {m : Nat} {A : Nat → Int32} {h h' : Nat → Nat → Int32} (H : MR m A h) (e0 : h' m = h m) (e1 : h' (m + 1) = h (m + 1)) (e2 : h' (m + 2) = h (m + 2)) (e3 : h' (m + 3) = h (m + 3)) : MR m A h' := by
  unfold MR at H ⊢
  rw [e0, e1, e2, e3]
  exact H
/-- the laws, before a look -/
def LawS (A : Nat → Int32) (h : Nat → Nat → Int32) (lt : Option Nat) (R : Nat) (f0 : Option (E1 → Int)) : Prop := ∃ mo ho sz, LWy A h mo R ho sz ∧ LWf f0 A h R ho sz ∧ ∀ z, lt = some z → 7 ≤ z
section PH
variable {L t : Nat} {lt rt rp : Option Nat} {sw : Bool} {h : Nat → Nat → Int32} {gl : Nat → Nat → Int64}
theorem e_lookA (by_ : Option Nat) (place : Int32) (ho sz R : Nat) (A : Nat → Int32) (f0 : Option (E1 → Int)) (fl : Nat → Option (E1 → Int)) (hS : LawS A h lt R f0) (hlt : lt = by_ → f0 = fl 0) (hby : ltR h t by_ fl) (hfm : fmR A h) (hR : R + 1 < 67108864) (hho : ho ≤ 9999) (hsz : sz ≤ 15) (hp : place = -1 ∨ inC place) : ∃ h' R', avE 2 101 [.ref 8, mvRv by_, .int place, .int (nI ho), .int (nI sz)] (sX L t lt rt rp sw h gl) (none, sX L t by_ rt rp sw h' gl) ∧ CF [8, 9, 10] h h' ∧ LW fl A h' t by_ place R' ho sz ∧ R ≤ R' ∧ R' ≤ R + 1 := by
  obtain ⟨mo0, ho0, sz0, hx, hf, hl7⟩ := hS
  obtain ⟨h', mo, R', C, c, W, m1, m2, r1, r2⟩ := e_look (L := L) (t := t) (lt := lt) (rt := rt) (rp := rp) (sw := sw) (gl := gl) by_ place ho sz ho0 sz0 R mo0 A f0 fl hx hf hlt hby hl7 hfm hR hho hsz
  have e : mo = place := by
    rcases hp with rfl | hp
    · exact m2 (by decide)
    · exact m1 hp
  subst e
  exact ⟨h', R', C, c, W, r1, r2⟩
theorem ltR_7 {fl : Nat → Option (E1 → Int)} (H : ltR h t lt fl) : ∀ z, lt = some z → 7 ≤ z := by
  intro z hz
  subst hz
  obtain ⟨x, _, rfl, _⟩ := H
  omega
theorem LW_LS {fl : Nat → Option (E1 → Int)} {A : Nat → Int32} {mo : Int32} {R ho sz : Nat} (H : LW fl A h t lt mo R ho sz) : LawS A h lt R (fl 0) := ⟨mo, ho, sz, LWx_y H.1, H.2.1, ltR_7 H.2.2.1⟩
theorem e_passHour_14 (wr : Bool) (A : Nat → Int32) (fl : Nat → Option (E1 → Int)) (by_ : Option Nat) (R : Nat) (f0 : Option (E1 → Int)) (hS : LawS A h lt R f0) (hlt : lt = by_ → f0 = fl 0) (hby : ltR h t by_ fl) (hfm : fmR A h) (hR : R + 1 < 67108864) (hA : rOK A) (hM : MR 14 A h) (hK : BK wr 14 A h) (h8 : gN A 8 < 9999) : ∃ h' R', avE 5 98 [.ref 8, mvRv by_, .ref 14] (sX L t lt rt rp sw h gl) (some (.int (nI (psA wr fl A).2)), sX L t by_ rt rp sw h' gl) ∧ CF [8, 9, 10, 14, 16, 17, 18, 34, 35, 37, 38, 39] h h' ∧ MR 14 (psA wr fl A).1 h' ∧ BK wr 14 (psA wr fl A).1 h' ∧ LW fl A h' t by_ (A 9) R' (gN A 8) (szN (gN A 8)) ∧ R ≤ R' ∧ R' ≤ R + 1 := by
  have b9 : -1 ≤ (A 9).toInt ∧ (A 9).toInt ≤ 29 := hA 9 (by omega)
  have hp : A 9 = -1 ∨ inC (A 9) := by
    by_cases c : (A 9).toInt = -1
    · exact Or.inl (Int32.toInt_inj.mp (by rw [c]; decide))
    · exact Or.inr ⟨by omega, by omega⟩
  have h0 := gN_le (m := 5) hA (i := 0) (by omega) (by decide)
  obtain ⟨h1, R', C1, c1, W1, r1, r2⟩ := e_lookA (L := L) (t := t) (lt := lt) (rt := rt) (rp := rp) (sw := sw) (gl := gl) by_ (A 9) (gN A 8) (szN (gN A 8)) R A f0 fl hS hlt hby hfm hR (by omega) (szN_le _) hp
  obtain ⟨a0, a1, a2, a3, a4, ab⟩ := hM
  have e2 : h 14 2 = nI (gN A 8) := a2.trans (gN_eq hA (by omega) (by decide))
  have M1 : MR 14 A h1 := MR_cf ⟨a0, a1, a2, a3, a4, ab⟩ (c1 14 rfl) (c1 15 rfl) (c1 16 rfl) (c1 17 rfl)
  have K1 : BK wr 14 A h1 := BK_stay hK (by rw [c1 14 rfl]) (by rw [c1 14 rfl]) (c1 18 rfl) rfl (fun _ _ => rfl)
  -- the silver that is paid
  have key : ∃ h2, (∀ r, avA 5 98 65 [.ref 8, mvRv by_, .ref 14, .int (nI 0), .int (nI 0)] [] (sX L t by_ rt rp sw h2 gl) r → avE 5 98 [.ref 8, mvRv by_, .ref 14] (sX L t lt rt rp sw h gl) r) ∧ CF [14, 34, 35, 37, 38, 39] h1 h2 ∧ MR 14 (p1A fl A) h2 ∧ BK wr 14 (p1A fl A) h2 ∧ LW fl A h2 t by_ (A 9) R' (gN A 8) (szN (gN A 8)) := by
    by_cases q : A 9 = -1
    · have ep : p1A fl A = A := by unfold p1A; rw [if_pos q]
      rw [ep]
      refine ⟨h1, fun r Z => ?_, CF_refl, M1, K1, W1⟩
      have x1 : h1 8 5 = -1 := W1.1.1.trans q
      refine av_ls (L := [.ref 8, mvRv (by_), .ref 14, mvU, mvU]) (by cases by_ <;> rfl) ?_
      refine a_aload_2 rfl rfl ?_
      refine a_geti rfl rfl rfl (fun _ _ _ => rfl) ?_
      refine a_as (y := nI (gN A 8)) e2 ?_
      refine a_sipush (v := (nI 9999)) rfl rfl rfl ?_
      refine a_cmpN_lt rfl rfl rfl (by omega) (by omega) (fun _ => ?_) (fun c_7 => False.elim (by omega))
      refine a_aload_0 rfl rfl ?_
      refine a_aloadV_1 rfl rfl ?_
      refine a_aload_2 rfl rfl ?_
      refine a_geti rfl rfl rfl (fun _ _ _ => rfl) ?_
      refine a_as (y := A 9) a0 ?_
      refine a_aload_2 rfl rfl ?_
      refine a_geti rfl rfl rfl (fun _ _ _ => rfl) ?_
      refine a_as (y := nI (gN A 8)) e2 ?_
      refine a_aload_2 rfl rfl ?_
      refine a_geti rfl rfl rfl (fun _ _ _ => rfl) ?_
      refine a_as (y := nI (gN A 8)) e2 ?_
      refine a_statI rfl rfl (e_sizeAt (gN A 8) (by omega)) (Nat.le_of_ble_eq_true rfl) ⟨rfl, rfl, rfl⟩ rfl rfl rfl (by cases by_ <;> exact Nat.le_of_ble_eq_true rfl) rfl ?_
      refine a_virt0 rfl rfl (C1) (Nat.le_of_ble_eq_true rfl) ⟨rfl, rfl, rfl, rfl⟩ rfl rfl (by cases by_ <;> rfl) (Nat.le_of_ble_eq_true rfl) rfl rfl ?_
      refine a_aload_0 rfl rfl ?_
      refine a_geti rfl rfl rfl (fun _ _ _ => rfl) ?_
      refine a_as (y := -1) x1 ?_
      refine a_iconst (v := (-1)) rfl rfl rfl ?_
      refine a_cmp_eq rfl rfl rfl (fun _ => ?_) (fun c_37 => by first | exact absurd rfl c_37 | exact absurd c_37 rfl)
      refine a_iconst (v := (nI 0)) rfl rfl rfl ?_
      refine a_istore_3 rfl rfl rfl ?_
      refine a_iconst (v := (nI 0)) rfl rfl rfl ?_
      refine a_istore_4 rfl rfl rfl ?_
      exact Z
    · have s1 : h1 14 1 = A 10 := M1.2.1
      have b10 : 0 ≤ (A 10).toInt ∧ (A 10).toInt ≤ 9999 := hA 10 (by omega)
      have x1 : h1 8 5 = A 9 := W1.1.1
      obtain ⟨h2, C2, c2, f2⟩ := e_paysBy_14 (L := L) (t := t) (lt := by_) (rt := rt) (rp := rp) (sw := sw) (gl := gl) (h := h1) fl A (A 9) R' (gN A 8) (szN (gN A 8)) W1 (by rw [s1]; exact b10)
      rw [s1] at C2
      have hpy := pyV_le fl A (gN A 8) (szN (gN A 8)) (A 9) (A 10).toInt
      have W2 := LW_cf rfl (fun p hp => by simp; omega) W1 c2 f2
      have ep : p1A fl A = va_up A 10 (nI (min 9999 (gN A 10 + pyV fl A (gN A 8) (szN (gN A 8)) (A 9) (A 10).toInt))) := by unfold p1A; rw [if_neg q]
      have s2 : h1 14 1 = nI (gN A 10) := s1.trans (gN_eq hA (by omega) (by decide))
      have h10 := gN_le (m := 9999) hA (i := 10) (by omega) (by decide)
      rw [ep]
      have c3 : CF [14] h2 (mvPut h2 14 1 (nI (min 9999 (gN A 10 + pyV fl A (gN A 8) (szN (gN A 8)) (A 9) (A 10).toInt)))) := CF_put CF_refl rfl
      refine ⟨mvPut h2 14 1 (nI (min 9999 (gN A 10 + pyV fl A (gN A 8) (szN (gN A 8)) (A 9) (A 10).toInt))), fun r Z => ?_, CF_trans (CF_mono (by decide) c2) (CF_mono (by decide) c3), MR_up (MR_cf M1 (c2 14 rfl) (c2 15 rfl) (c2 16 rfl) (c2 17 rfl)), BK_stay K1 (by show h2 14 9 = _; rw [c2 14 rfl]) (by show h2 14 10 = _; rw [c2 14 rfl]) (c2 18 rfl) (va_up_ne _ _ (by omega)) (fun i hi => va_up_ne _ _ (by omega)), LW_cf rfl (fun p hp => by simp; omega) W2 c3 f2⟩
      refine av_ls (L := [.ref 8, mvRv (by_), .ref 14, mvU, mvU]) (by cases by_ <;> rfl) ?_
      refine a_aload_2 rfl rfl ?_
      refine a_geti rfl rfl rfl (fun _ _ _ => rfl) ?_
      refine a_as (y := nI (gN A 8)) e2 ?_
      refine a_sipush (v := (nI 9999)) rfl rfl rfl ?_
      refine a_cmpN_lt rfl rfl rfl (by omega) (by omega) (fun _ => ?_) (fun c_7 => False.elim (by omega))
      refine a_aload_0 rfl rfl ?_
      refine a_aloadV_1 rfl rfl ?_
      refine a_aload_2 rfl rfl ?_
      refine a_geti rfl rfl rfl (fun _ _ _ => rfl) ?_
      refine a_as (y := A 9) a0 ?_
      refine a_aload_2 rfl rfl ?_
      refine a_geti rfl rfl rfl (fun _ _ _ => rfl) ?_
      refine a_as (y := nI (gN A 8)) e2 ?_
      refine a_aload_2 rfl rfl ?_
      refine a_geti rfl rfl rfl (fun _ _ _ => rfl) ?_
      refine a_as (y := nI (gN A 8)) e2 ?_
      refine a_statI rfl rfl (e_sizeAt (gN A 8) (by omega)) (Nat.le_of_ble_eq_true rfl) ⟨rfl, rfl, rfl⟩ rfl rfl rfl (by cases by_ <;> exact Nat.le_of_ble_eq_true rfl) rfl ?_
      refine a_virt0 rfl rfl (C1) (Nat.le_of_ble_eq_true rfl) ⟨rfl, rfl, rfl, rfl⟩ rfl rfl (by cases by_ <;> rfl) (Nat.le_of_ble_eq_true rfl) rfl rfl ?_
      refine a_aload_0 rfl rfl ?_
      refine a_geti rfl rfl rfl (fun _ _ _ => rfl) ?_
      refine a_as (y := A 9) x1 ?_
      refine a_iconst (v := (-1)) rfl rfl rfl ?_
      refine a_cmp_eq rfl rfl rfl (fun c_37 => by first | exact absurd c_37 q | exact absurd q c_37) (fun _ => ?_)
      refine a_aload_2 rfl rfl ?_
      refine a_sipush (v := (nI 9999)) rfl rfl rfl ?_
      refine a_aload_2 rfl rfl ?_
      refine a_geti rfl rfl rfl (fun _ _ _ => rfl) ?_
      refine a_as (y := nI (gN A 10)) s2 ?_
      refine a_aload_0 rfl rfl ?_
      refine a_aload_2 rfl rfl ?_
      refine a_virtI rfl rfl (C2) (Nat.le_of_ble_eq_true rfl) ⟨rfl, rfl, rfl, rfl⟩ rfl rfl rfl (Nat.le_of_ble_eq_true rfl) rfl rfl ?_
      refine a_iaddN rfl rfl ?_
      refine a_minN rfl rfl (Nat.le_of_ble_eq_true rfl) (by omega) (by omega) ?_
      refine a_puti rfl rfl rfl rfl ?_
      refine a_iconst (v := (nI 0)) rfl rfl rfl ?_
      refine a_istore_3 rfl rfl rfl ?_
      refine a_iconst (v := (nI 0)) rfl rfl rfl ?_
      refine a_istore_4 rfl rfl rfl ?_
      exact Z
  obtain ⟨h2, F2, c2, M2, K2, W2⟩ := key
  have z0 : gN (p1A fl A) 0 = gN A 0 := by unfold gN; rw [p1A_ne (by omega)]
  obtain ⟨h3, A3, c3, M3, K3, f3⟩ := l_pass_14 (L := L) (t := t) (lt := by_) (rt := rt) (rp := rp) (sw := sw) (gl := gl) wr fl A R' (gN A 8) (szN (gN A 8)) (A 9) (mvRv by_) (gN A 0) h0 (gN A 0) 0 0 (p1A fl A) h2 (by omega) z0 (by omega) (p1A_OK hA) M2 K2 W2
  have e8 : h3 14 2 = nI (gN A 8) := by
    have e : (p2A wr fl A).1 8 = A 8 := p2A_lo hA (stay_of (by omega))
    exact (M3.2.2.1.trans e).trans (gN_eq hA (by omega) (by decide))
  have e8' : h3 14 2 + nI 1 = nI (gN A 8 + 1) := by rw [e8]; exact nI_1 _
  rw [e8'] at A3
  have c4 : CF [14] h3 (mvPut h3 14 2 (nI (gN A 8 + 1))) := CF_put CF_refl rfl
  refine ⟨mvPut h3 14 2 (nI (gN A 8 + 1)), R', F2 _ A3, CF_trans (CF_mono (by decide) c1) (CF_trans (CF_mono (by decide) c2) (CF_trans (CF_mono (by decide) c3) (CF_mono (by decide) c4))), MR_hour M3, BK_stay K3 rfl rfl rfl (psA_ne (by omega)) (fun i hi => psA_ne (by omega)), LW_cf rfl (fun p hp => by simp; omega) (LW_cf rfl (fun p hp => by simp; omega) W2 c3 f3) c4 f3, r1, r2⟩
theorem e_passHour_no_14 (by_ : Option Nat) (e2 : h 14 2 = nI 9999) : avE 5 98 [.ref 8, mvRv by_, .ref 14] (sX L t lt rt rp sw h gl) (some (.int (nI 0)), sX L t lt rt rp sw h gl) := by
  refine av_ls (L := [.ref 8, mvRv (by_), .ref 14, mvU, mvU]) (by cases by_ <;> rfl) ?_
  refine a_aload_2 rfl rfl ?_
  refine a_geti rfl rfl rfl (fun _ _ _ => rfl) ?_
  refine a_as (y := nI (9999)) e2 ?_
  refine a_sipush (v := (nI 9999)) rfl rfl rfl ?_
  refine a_cmpN_lt rfl rfl rfl (by omega) (by omega) (fun c_7 => False.elim (by omega)) (fun _ => ?_)
  refine a_iconst (v := (nI 0)) rfl rfl rfl ?_
  exact a_iret rfl rfl
theorem e_passHour_62 (wr : Bool) (A : Nat → Int32) (fl : Nat → Option (E1 → Int)) (by_ : Option Nat) (R : Nat) (f0 : Option (E1 → Int)) (hS : LawS A h lt R f0) (hlt : lt = by_ → f0 = fl 0) (hby : ltR h t by_ fl) (hfm : fmR A h) (hR : R + 1 < 67108864) (hA : rOK A) (hM : MR 62 A h) (hK : BK wr 62 A h) (h8 : gN A 8 < 9999) : ∃ h' R', avE 5 98 [.ref 8, mvRv by_, .ref 62] (sX L t lt rt rp sw h gl) (some (.int (nI (psA wr fl A).2)), sX L t by_ rt rp sw h' gl) ∧ CF [8, 9, 10, 62, 64, 65, 66, 34, 35, 37, 38, 39] h h' ∧ MR 62 (psA wr fl A).1 h' ∧ BK wr 62 (psA wr fl A).1 h' ∧ LW fl A h' t by_ (A 9) R' (gN A 8) (szN (gN A 8)) ∧ R ≤ R' ∧ R' ≤ R + 1 := by
  have b9 : -1 ≤ (A 9).toInt ∧ (A 9).toInt ≤ 29 := hA 9 (by omega)
  have hp : A 9 = -1 ∨ inC (A 9) := by
    by_cases c : (A 9).toInt = -1
    · exact Or.inl (Int32.toInt_inj.mp (by rw [c]; decide))
    · exact Or.inr ⟨by omega, by omega⟩
  have h0 := gN_le (m := 5) hA (i := 0) (by omega) (by decide)
  obtain ⟨h1, R', C1, c1, W1, r1, r2⟩ := e_lookA (L := L) (t := t) (lt := lt) (rt := rt) (rp := rp) (sw := sw) (gl := gl) by_ (A 9) (gN A 8) (szN (gN A 8)) R A f0 fl hS hlt hby hfm hR (by omega) (szN_le _) hp
  obtain ⟨a0, a1, a2, a3, a4, ab⟩ := hM
  have e2 : h 62 2 = nI (gN A 8) := a2.trans (gN_eq hA (by omega) (by decide))
  have M1 : MR 62 A h1 := MR_cf ⟨a0, a1, a2, a3, a4, ab⟩ (c1 62 rfl) (c1 63 rfl) (c1 64 rfl) (c1 65 rfl)
  have K1 : BK wr 62 A h1 := BK_stay hK (by rw [c1 62 rfl]) (by rw [c1 62 rfl]) (c1 66 rfl) rfl (fun _ _ => rfl)
  -- the silver that is paid
  have key : ∃ h2, (∀ r, avA 5 98 65 [.ref 8, mvRv by_, .ref 62, .int (nI 0), .int (nI 0)] [] (sX L t by_ rt rp sw h2 gl) r → avE 5 98 [.ref 8, mvRv by_, .ref 62] (sX L t lt rt rp sw h gl) r) ∧ CF [62, 34, 35, 37, 38, 39] h1 h2 ∧ MR 62 (p1A fl A) h2 ∧ BK wr 62 (p1A fl A) h2 ∧ LW fl A h2 t by_ (A 9) R' (gN A 8) (szN (gN A 8)) := by
    by_cases q : A 9 = -1
    · have ep : p1A fl A = A := by unfold p1A; rw [if_pos q]
      rw [ep]
      refine ⟨h1, fun r Z => ?_, CF_refl, M1, K1, W1⟩
      have x1 : h1 8 5 = -1 := W1.1.1.trans q
      refine av_ls (L := [.ref 8, mvRv (by_), .ref 62, mvU, mvU]) (by cases by_ <;> rfl) ?_
      refine a_aload_2 rfl rfl ?_
      refine a_geti rfl rfl rfl (fun _ _ _ => rfl) ?_
      refine a_as (y := nI (gN A 8)) e2 ?_
      refine a_sipush (v := (nI 9999)) rfl rfl rfl ?_
      refine a_cmpN_lt rfl rfl rfl (by omega) (by omega) (fun _ => ?_) (fun c_7 => False.elim (by omega))
      refine a_aload_0 rfl rfl ?_
      refine a_aloadV_1 rfl rfl ?_
      refine a_aload_2 rfl rfl ?_
      refine a_geti rfl rfl rfl (fun _ _ _ => rfl) ?_
      refine a_as (y := A 9) a0 ?_
      refine a_aload_2 rfl rfl ?_
      refine a_geti rfl rfl rfl (fun _ _ _ => rfl) ?_
      refine a_as (y := nI (gN A 8)) e2 ?_
      refine a_aload_2 rfl rfl ?_
      refine a_geti rfl rfl rfl (fun _ _ _ => rfl) ?_
      refine a_as (y := nI (gN A 8)) e2 ?_
      refine a_statI rfl rfl (e_sizeAt (gN A 8) (by omega)) (Nat.le_of_ble_eq_true rfl) ⟨rfl, rfl, rfl⟩ rfl rfl rfl (by cases by_ <;> exact Nat.le_of_ble_eq_true rfl) rfl ?_
      refine a_virt0 rfl rfl (C1) (Nat.le_of_ble_eq_true rfl) ⟨rfl, rfl, rfl, rfl⟩ rfl rfl (by cases by_ <;> rfl) (Nat.le_of_ble_eq_true rfl) rfl rfl ?_
      refine a_aload_0 rfl rfl ?_
      refine a_geti rfl rfl rfl (fun _ _ _ => rfl) ?_
      refine a_as (y := -1) x1 ?_
      refine a_iconst (v := (-1)) rfl rfl rfl ?_
      refine a_cmp_eq rfl rfl rfl (fun _ => ?_) (fun c_37 => by first | exact absurd rfl c_37 | exact absurd c_37 rfl)
      refine a_iconst (v := (nI 0)) rfl rfl rfl ?_
      refine a_istore_3 rfl rfl rfl ?_
      refine a_iconst (v := (nI 0)) rfl rfl rfl ?_
      refine a_istore_4 rfl rfl rfl ?_
      exact Z
    · have s1 : h1 62 1 = A 10 := M1.2.1
      have b10 : 0 ≤ (A 10).toInt ∧ (A 10).toInt ≤ 9999 := hA 10 (by omega)
      have x1 : h1 8 5 = A 9 := W1.1.1
      obtain ⟨h2, C2, c2, f2⟩ := e_paysBy_62 (L := L) (t := t) (lt := by_) (rt := rt) (rp := rp) (sw := sw) (gl := gl) (h := h1) fl A (A 9) R' (gN A 8) (szN (gN A 8)) W1 (by rw [s1]; exact b10)
      rw [s1] at C2
      have hpy := pyV_le fl A (gN A 8) (szN (gN A 8)) (A 9) (A 10).toInt
      have W2 := LW_cf rfl (fun p hp => by simp; omega) W1 c2 f2
      have ep : p1A fl A = va_up A 10 (nI (min 9999 (gN A 10 + pyV fl A (gN A 8) (szN (gN A 8)) (A 9) (A 10).toInt))) := by unfold p1A; rw [if_neg q]
      have s2 : h1 62 1 = nI (gN A 10) := s1.trans (gN_eq hA (by omega) (by decide))
      have h10 := gN_le (m := 9999) hA (i := 10) (by omega) (by decide)
      rw [ep]
      have c3 : CF [62] h2 (mvPut h2 62 1 (nI (min 9999 (gN A 10 + pyV fl A (gN A 8) (szN (gN A 8)) (A 9) (A 10).toInt)))) := CF_put CF_refl rfl
      refine ⟨mvPut h2 62 1 (nI (min 9999 (gN A 10 + pyV fl A (gN A 8) (szN (gN A 8)) (A 9) (A 10).toInt))), fun r Z => ?_, CF_trans (CF_mono (by decide) c2) (CF_mono (by decide) c3), MR_up (MR_cf M1 (c2 62 rfl) (c2 63 rfl) (c2 64 rfl) (c2 65 rfl)), BK_stay K1 (by show h2 62 9 = _; rw [c2 62 rfl]) (by show h2 62 10 = _; rw [c2 62 rfl]) (c2 66 rfl) (va_up_ne _ _ (by omega)) (fun i hi => va_up_ne _ _ (by omega)), LW_cf rfl (fun p hp => by simp; omega) W2 c3 f2⟩
      refine av_ls (L := [.ref 8, mvRv (by_), .ref 62, mvU, mvU]) (by cases by_ <;> rfl) ?_
      refine a_aload_2 rfl rfl ?_
      refine a_geti rfl rfl rfl (fun _ _ _ => rfl) ?_
      refine a_as (y := nI (gN A 8)) e2 ?_
      refine a_sipush (v := (nI 9999)) rfl rfl rfl ?_
      refine a_cmpN_lt rfl rfl rfl (by omega) (by omega) (fun _ => ?_) (fun c_7 => False.elim (by omega))
      refine a_aload_0 rfl rfl ?_
      refine a_aloadV_1 rfl rfl ?_
      refine a_aload_2 rfl rfl ?_
      refine a_geti rfl rfl rfl (fun _ _ _ => rfl) ?_
      refine a_as (y := A 9) a0 ?_
      refine a_aload_2 rfl rfl ?_
      refine a_geti rfl rfl rfl (fun _ _ _ => rfl) ?_
      refine a_as (y := nI (gN A 8)) e2 ?_
      refine a_aload_2 rfl rfl ?_
      refine a_geti rfl rfl rfl (fun _ _ _ => rfl) ?_
      refine a_as (y := nI (gN A 8)) e2 ?_
      refine a_statI rfl rfl (e_sizeAt (gN A 8) (by omega)) (Nat.le_of_ble_eq_true rfl) ⟨rfl, rfl, rfl⟩ rfl rfl rfl (by cases by_ <;> exact Nat.le_of_ble_eq_true rfl) rfl ?_
      refine a_virt0 rfl rfl (C1) (Nat.le_of_ble_eq_true rfl) ⟨rfl, rfl, rfl, rfl⟩ rfl rfl (by cases by_ <;> rfl) (Nat.le_of_ble_eq_true rfl) rfl rfl ?_
      refine a_aload_0 rfl rfl ?_
      refine a_geti rfl rfl rfl (fun _ _ _ => rfl) ?_
      refine a_as (y := A 9) x1 ?_
      refine a_iconst (v := (-1)) rfl rfl rfl ?_
      refine a_cmp_eq rfl rfl rfl (fun c_37 => by first | exact absurd c_37 q | exact absurd q c_37) (fun _ => ?_)
      refine a_aload_2 rfl rfl ?_
      refine a_sipush (v := (nI 9999)) rfl rfl rfl ?_
      refine a_aload_2 rfl rfl ?_
      refine a_geti rfl rfl rfl (fun _ _ _ => rfl) ?_
      refine a_as (y := nI (gN A 10)) s2 ?_
      refine a_aload_0 rfl rfl ?_
      refine a_aload_2 rfl rfl ?_
      refine a_virtI rfl rfl (C2) (Nat.le_of_ble_eq_true rfl) ⟨rfl, rfl, rfl, rfl⟩ rfl rfl rfl (Nat.le_of_ble_eq_true rfl) rfl rfl ?_
      refine a_iaddN rfl rfl ?_
      refine a_minN rfl rfl (Nat.le_of_ble_eq_true rfl) (by omega) (by omega) ?_
      refine a_puti rfl rfl rfl rfl ?_
      refine a_iconst (v := (nI 0)) rfl rfl rfl ?_
      refine a_istore_3 rfl rfl rfl ?_
      refine a_iconst (v := (nI 0)) rfl rfl rfl ?_
      refine a_istore_4 rfl rfl rfl ?_
      exact Z
  obtain ⟨h2, F2, c2, M2, K2, W2⟩ := key
  have z0 : gN (p1A fl A) 0 = gN A 0 := by unfold gN; rw [p1A_ne (by omega)]
  obtain ⟨h3, A3, c3, M3, K3, f3⟩ := l_pass_62 (L := L) (t := t) (lt := by_) (rt := rt) (rp := rp) (sw := sw) (gl := gl) wr fl A R' (gN A 8) (szN (gN A 8)) (A 9) (mvRv by_) (gN A 0) h0 (gN A 0) 0 0 (p1A fl A) h2 (by omega) z0 (by omega) (p1A_OK hA) M2 K2 W2
  have e8 : h3 62 2 = nI (gN A 8) := by
    have e : (p2A wr fl A).1 8 = A 8 := p2A_lo hA (stay_of (by omega))
    exact (M3.2.2.1.trans e).trans (gN_eq hA (by omega) (by decide))
  have e8' : h3 62 2 + nI 1 = nI (gN A 8 + 1) := by rw [e8]; exact nI_1 _
  rw [e8'] at A3
  have c4 : CF [62] h3 (mvPut h3 62 2 (nI (gN A 8 + 1))) := CF_put CF_refl rfl
  refine ⟨mvPut h3 62 2 (nI (gN A 8 + 1)), R', F2 _ A3, CF_trans (CF_mono (by decide) c1) (CF_trans (CF_mono (by decide) c2) (CF_trans (CF_mono (by decide) c3) (CF_mono (by decide) c4))), MR_hour M3, BK_stay K3 rfl rfl rfl (psA_ne (by omega)) (fun i hi => psA_ne (by omega)), LW_cf rfl (fun p hp => by simp; omega) (LW_cf rfl (fun p hp => by simp; omega) W2 c3 f3) c4 f3, r1, r2⟩
theorem e_passHour_no_62 (by_ : Option Nat) (e2 : h 62 2 = nI 9999) : avE 5 98 [.ref 8, mvRv by_, .ref 62] (sX L t lt rt rp sw h gl) (some (.int (nI 0)), sX L t lt rt rp sw h gl) := by
  refine av_ls (L := [.ref 8, mvRv (by_), .ref 62, mvU, mvU]) (by cases by_ <;> rfl) ?_
  refine a_aload_2 rfl rfl ?_
  refine a_geti rfl rfl rfl (fun _ _ _ => rfl) ?_
  refine a_as (y := nI (9999)) e2 ?_
  refine a_sipush (v := (nI 9999)) rfl rfl rfl ?_
  refine a_cmpN_lt rfl rfl rfl (by omega) (by omega) (fun c_7 => False.elim (by omega)) (fun _ => ?_)
  refine a_iconst (v := (nI 0)) rfl rfl rfl ?_
  exact a_iret rfl rfl
end PH
