/-! MOVES: cells, beasts, the moon; steps kept and taken back -/
theorem MR_moon {m : Nat} {A : Nat → Int32} {h : Nat → Nat → Int32} {v : Int32} (H : MR m A h) : MR m (va_up A 9 v) (mvPut h m 0 v) := by
  obtain ⟨a0, a1, a2, a3, a4, ab⟩ := H
  have e : ∀ k, k ≠ 0 → mvPut h m 0 v m k = h m k := fun k hk => by unfold mvPut; rw [va_up_self, va_up_ne _ _ hk]
  have e2 : ∀ p, p ≠ m → mvPut h m 0 v p = h p := fun p hp => by unfold mvPut; rw [va_up_ne _ _ hp]
  refine ⟨?_, ?_, ?_, ?_, ?_, fun b hb => ?_⟩
  · unfold mvPut; rw [va_up_self, va_up_self, va_up_self]
  · rw [e 1 (by omega), va_up_ne _ _ (by omega)]; exact a1
  · rw [e 2 (by omega), va_up_ne _ _ (by omega)]; exact a2
  · rw [e 3 (by omega), va_up_ne _ _ (by omega)]; exact a3
  · rw [e 4 (by omega), va_up_ne _ _ (by omega)]; exact a4
  · rw [e2 _ (by omega), e2 _ (by omega), e2 _ (by omega), va_up_ne _ _ (by omega), va_up_ne _ _ (by omega), va_up_ne _ _ (by omega)]
    exact ab b (by rw [gN_ne (by omega)] at hb; exact hb)
theorem MR_x {m : Nat} {A : Nat → Int32} {h : Nat → Nat → Int32} {v : Int32} (H : MR m A h) : MR m (va_up A 11 v) (mvPut h m 3 v) := by
  obtain ⟨a0, a1, a2, a3, a4, ab⟩ := H
  have e : ∀ k, k ≠ 3 → mvPut h m 3 v m k = h m k := fun k hk => by unfold mvPut; rw [va_up_self, va_up_ne _ _ hk]
  have e2 : ∀ p, p ≠ m → mvPut h m 3 v p = h p := fun p hp => by unfold mvPut; rw [va_up_ne _ _ hp]
  refine ⟨?_, ?_, ?_, ?_, ?_, fun b hb => ?_⟩
  · rw [e 0 (by omega), va_up_ne _ _ (by omega)]; exact a0
  · rw [e 1 (by omega), va_up_ne _ _ (by omega)]; exact a1
  · rw [e 2 (by omega), va_up_ne _ _ (by omega)]; exact a2
  · unfold mvPut; rw [va_up_self, va_up_self, va_up_self]
  · rw [e 4 (by omega), va_up_ne _ _ (by omega)]; exact a4
  · rw [e2 _ (by omega), e2 _ (by omega), e2 _ (by omega), va_up_ne _ _ (by omega), va_up_ne _ _ (by omega), va_up_ne _ _ (by omega)]
    exact ab b (by rw [gN_ne (by omega)] at hb; exact hb)
theorem MR_at {m : Nat} {A : Nat → Int32} {h : Nat → Nat → Int32} {v : Int32} {b : Nat} (H : MR m A h) : MR m (va_up A (13 + 5 * b) v) (mvPut h (m + 1) b v) := by
  obtain ⟨a0, a1, a2, a3, a4, ab⟩ := H
  have e2 : ∀ p, p ≠ m + 1 → mvPut h (m + 1) b v p = h p := fun p hp => by unfold mvPut; rw [va_up_ne _ _ hp]
  have n : ∀ i, i ≠ 13 + 5 * b → va_up A (13 + 5 * b) v i = A i := fun i hi => va_up_ne _ _ hi
  refine ⟨?_, ?_, ?_, ?_, ?_, fun c hc => ?_⟩
  · rw [e2 m (by omega), n 9 (by omega)]; exact a0
  · rw [e2 m (by omega), n 10 (by omega)]; exact a1
  · rw [e2 m (by omega), n 8 (by omega)]; exact a2
  · rw [e2 m (by omega), n 11 (by omega)]; exact a3
  · rw [e2 m (by omega), n 0 (by omega)]; exact a4
  · rw [gN_ne (by omega)] at hc
    rw [e2 (m + 2) (by omega), e2 (m + 3) (by omega), n (14 + 5 * c) (by omega), n (15 + 5 * c) (by omega)]
    refine ⟨?_, (ab c hc).2⟩
    unfold mvPut
    rw [va_up_self]
    by_cases q : c = b
    · subst q; rw [va_up_self, va_up_self]
    · rw [va_up_ne _ _ q, n _ (by omega)]; exact (ab c hc).1
/-- a step was kept, and no beast told since -/
def KL (A : Nat → Int32) : Prop := 1 ≤ gN A 3 → gN A 0 ≤ gN A (166 + 51 * (gN A 3 - 1))
theorem KL_keep {A : Nat → Int32} (H : rOK A) : KL (kpA A) := by
  have hn := gN_le (m := 30) H (i := 3) (by omega) (by decide)
  intro _
  have g3 : gN (kpA A) 3 = if gN A 3 = 30 then 30 else gN A 3 + 1 := gN_nI kpA_3 (by split <;> omega)
  have g0 : gN (kpA A) 0 = gN A 0 := gN_c (kpA_lo (Or.inl (by omega)) (by omega) hn)
  have new := kpA_new (A := A) (j := 0) hn (by omega)
  rw [Nat.add_zero] at new
  have gn : gN (kpA A) (166 + 51 * (if gN A 3 = 30 then 29 else gN A 3)) = gN A 0 := gN_c new
  rw [g3, g0, show (if gN A 3 = 30 then 30 else gN A 3 + 1) - 1 = (if gN A 3 = 30 then 29 else gN A 3) by split <;> omega, gn]
  exact Nat.le_refl _
def mEq (A A' : Nat → Int32) : Prop := (∀ i, i < 8 → A' i = A i) ∧ same A A' 38 1696 ∧ ∀ b, b < 5 → A' (16 + 5 * b) = A (16 + 5 * b) ∧ A' (17 + 5 * b) = A (17 + 5 * b)
theorem mEq_refl {A : Nat → Int32} : mEq A A := ⟨fun _ _ => rfl, same_refl, fun _ _ => ⟨rfl, rfl⟩⟩
theorem mEq_tr {A A' A'' : Nat → Int32} (h1 : mEq A A') (h2 : mEq A' A'') : mEq A A'' := ⟨fun i hi => (h2.1 i hi).trans (h1.1 i hi), same_tr h1.2.1 h2.2.1, fun b hb => ⟨(h2.2.2 b hb).1.trans (h1.2.2 b hb).1, (h2.2.2 b hb).2.trans (h1.2.2 b hb).2⟩⟩
theorem mEq_up {A : Nat → Int32} {i : Nat} {v : Int32} (h : (8 ≤ i ∧ i < 13) ∨ (∃ b, b < 5 ∧ i = 13 + 5 * b) ∨ 1696 ≤ i) : mEq A (va_up A i v) := by
  refine ⟨fun j hj => va_up_ne _ _ (by omega), same_up (by omega), fun b hb => ⟨va_up_ne _ _ (by omega), va_up_ne _ _ (by omega)⟩⟩
theorem mEq_ok {A A' : Nat → Int32} (H : okA A) (k : KL A) (e : mEq A A') (r : rOK A') : okA A' ∧ KL A' := by
  obtain ⟨a, u, c⟩ := H
  have h3 := gN_le (m := 30) a (i := 3) (by omega) (by decide)
  have cn : ∀ k, k < 30 → gN A (166 + 51 * k) ≤ 5 := fun k hk => gN_le (m := 5) a (by omega) (by have := bd_step (k := k) (j := 0) (by omega) (by omega); rw [Nat.add_zero] at this; rw [this]; decide)
  refine ⟨⟨r, UI_of u k h3 cn (e.1 0 (by omega)) (e.1 3 (by omega)) (fun i h1 h2 => e.2.1 i (by omega) h2) e.2.2, ?_⟩, ?_⟩
  · rw [e.1 2 (by omega), e.1 1 (by omega)]; exact c
  · intro h1
    have g3 : gN A' 3 = gN A 3 := gN_c (e.1 3 (by omega))
    have g0 : gN A' 0 = gN A 0 := gN_c (e.1 0 (by omega))
    rw [g3] at h1 ⊢
    have gs : gN A' (166 + 51 * (gN A 3 - 1)) = gN A (166 + 51 * (gN A 3 - 1)) := gN_c (e.2.1 _ (by omega) (by omega))
    rw [g0, gs]
    exact k h1
theorem mEq_same {A A' : Nat → Int32} (e : mEq A A') : sameC A A' := fun i h1 h2 => e.2.1 i h1 (by omega)
theorem CI_mom {S : List Nat} {A A' B : Nat → Int32} {TX : Nat → Txt} {R R' t : Nat} {lt lt' : Option Nat} {h h' : Nat → Nat → Int32} (H : CI A B TX R t lt h) (k : KL A) (e : mEq A A') (r : rOK A') (c : CF S h h') (hS1 : av S [11, 12, 13, 19, 20, 21, 22, 23, 24, 25, 26, 27, 28, 29, 30, 31, 32] = true) (hS2 : av S (r22 40) = true) (hS3 : lo98 S = true) (M : MR 14 A' h') (K : BK true 14 A' h') (l : LI A' TX R' lt' h') : CI A' B TX R' t lt' h' := by
  have q : ∀ T : List Nat, T.all (fun p => [11, 12, 13, 19, 20, 21, 22, 23, 24, 25, 26, 27, 28, 29, 30, 31, 32].contains p) = true → av S T = true := fun T hT => by
    refine List.all_eq_true.mpr fun p hp => ?_
    have := List.all_eq_true.mp hT p hp
    rw [av_of hS1 (List.contains_iff_mem.mp this)]
    rfl
  have q11 : h' 11 = h 11 := c 11 (av_of hS1 (by simp))
  refine CI_gen H c hS2 hS3 (mEq_ok H.1 k e r).1 (e.1 1 (by omega)) ?_ l
  have sm : ∀ a b, 38 ≤ a → b ≤ 1696 → same A A' a b := fun a b h1 h2 i g1 g2 => e.2.1 i (by omega) (by omega)
  exact HR_gen H.1.1 H.2.2.2.1 c (Or.inl ⟨q _ rfl, sm _ _ (by omega) (by omega)⟩) (Or.inr M) (Or.inr K) (Or.inl ⟨q _ rfl, e.1 3 (by omega), sm _ _ (by omega) (by omega)⟩) (Or.inl ⟨q _ rfl, e.1 4 (by omega), sm _ _ (by omega) (by omega)⟩) (Or.inl ⟨q _ rfl, e.1 5 (by omega), sm _ _ (by omega) (by omega)⟩) (Or.inl ⟨q _ rfl, e.1 6 (by omega), sm _ _ (by omega) (by omega)⟩) (Or.inl ⟨q _ rfl, e.1 7 (by omega), sm _ _ (by omega) (by omega)⟩) (Or.inl ⟨q _ rfl, sm _ _ (by omega) (by omega)⟩) (by rw [q11, e.1 2 (by omega)]; exact H.2.2.2.1.2.2.2.2.2.2.1) (by rw [q11, e.1 1 (by omega)]; exact H.2.2.2.1.2.2.2.2.2.2.2)
theorem BK_A {m : Nat} {A A' : Nat → Int32} {h h' : Nat → Nat → Int32} (H : BK true m A h) (e9 : h' m 9 = h m 9) (e10 : h' m 10 = h m 10) (e4 : h' (m + 4) = h (m + 4)) (e12 : A' 12 = A 12) (eb : same A A' 1696 1726) : BK true m A' h' := by
  obtain ⟨bf, bc, b1, b2, b3, b4, b5⟩ := H
  refine ⟨bf, bc, b1, b2, by rw [e9]; exact b3, by rw [e10]; exact b4, fun hw => ⟨(gN_c e12).trans (b5 hw).1, fun i hi => ?_⟩⟩
  rw [e4, eb _ (by omega) (by omega)]
  exact (b5 hw).2 i hi
theorem LI_path {A : Nat → Int32} {TX : Nat → Txt} {R : Nat} {lt : Option Nat} {h : Nat → Nat → Int32} {F G : Nat → Int32} (H : LI A TX R lt h) (hp : rPth (frA A) F G) : LI A TX R lt (va_up (va_up h 9 F) 10 G) := by
  obtain ⟨f0, ⟨mo, ho, sz, ⟨x1, x2, x3, x4, x5, x6, x7, x8, x9, x10⟩, hf, h7⟩, a, b⟩ := H
  exact ⟨f0, ⟨mo, ho, sz, ⟨x1, x2, x3, x4, x5, x6, x7, x8, x9, hp⟩, hf, h7⟩, a, b⟩
theorem CF_path {h : Nat → Nat → Int32} {F G : Nat → Int32} : CF [9, 10] h (va_up (va_up h 9 F) 10 G) := CF_up (CF_up CF_refl rfl) rfl
theorem CI_path {A B : Nat → Int32} {TX : Nat → Txt} {R t : Nat} {lt : Option Nat} {h : Nat → Nat → Int32} {F G : Nat → Int32} (H : CI A B TX R t lt h) (hp : rPth (frA A) F G) : CI A B TX R t lt (va_up (va_up h 9 F) 10 G) := CI_law H rfl rfl rfl CF_path (LI_path H.2.2.2.2.2.2 hp)
theorem okA_keep {A : Nat → Int32} (H : okA A) : okA (kpA A) := by
  have hn := gN_le (m := 30) H.1 (i := 3) (by omega) (by decide)
  refine ⟨kpA_OK H.1, UI_keep H.1 H.2.1, ?_⟩
  rw [kpA_lo (Or.inl (by omega)) (by omega) hn, kpA_lo (Or.inl (by omega)) (by omega) hn]
  exact H.2.2
theorem kpA_1 {A : Nat → Int32} (H : rOK A) : kpA A 1 = A 1 := kpA_lo (Or.inl (by omega)) (by omega) (gN_le (m := 30) H (i := 3) (by omega) (by decide))
abbrev lgP (A : Nat → Int32) (c : Int32) : Prop := opI (frA A) c ∧ c ≠ A 9
abbrev ldP (A : Nat → Int32) (b c : Int32) : Prop := (0 ≤ b.toInt ∧ b.toInt < gN A 0) ∧ A (13 + 5 * b.toInt.toNat) ≠ c ∧ btw (frA A) (A (13 + 5 * b.toInt.toNat)) c ≠ -1
abbrev btP (A : Nat → Int32) (c m : Int32) : Prop := opI (frA A) c ∧ (0 ≤ m.toInt ∧ m.toInt ≤ 9) ∧ gN A 0 < 5
def btA (A : Nat → Int32) (c m : Int32) : Nat → Int32 := va_up (va_up (va_up (va_up (va_up (va_up A (16 + 5 * gN A 0) c) (17 + 5 * gN A 0) m) (13 + 5 * gN A 0) c) (14 + 5 * gN A 0) m) (15 + 5 * gN A 0) (nI 0)) 0 (nI (gN A 0 + 1))
section MO
variable {L t : Nat} {lt rt rp : Option Nat} {sw : Bool} {h : Nat → Nat → Int32} {gl : Nat → Nat → Int64} {A B : Nat → Int32} {TX : Nat → Txt} {R : Nat}
theorem C_keep (H : CI A B TX R t lt h) : ∃ h', avE 1 86 [.ref 11] (sX L t lt rt rp sw h gl) (none, sX L t lt rt rp sw h' gl) ∧ CF [11, 19] h h' ∧ CI (kpA A) B TX R t lt h' := by
  obtain ⟨h', C, c, d, P⟩ := e_keep11 (L := L) (t := t) (lt := lt) (rt := rt) (rp := rp) (sw := sw) (gl := gl) A H.1.1 H.2.2.2.1.2.1 H.2.2.2.1.2.2.1 H.2.2.2.1.2.2.2.1
  have hn := gN_le (m := 30) H.1.1 (i := 3) (by omega) (by decide)
  have lo : ∀ i, i < 166 → i ≠ 3 → kpA A i = A i := fun i h1 h2 => kpA_lo (Or.inl h1) h2 hn
  have sm : ∀ a b, 4 ≤ a → b ≤ 166 → same A (kpA A) a b := fun a b h1 h2 i g1 g2 => lo i (by omega) (by omega)
  refine ⟨h', C, c, CI_gen H c rfl rfl (okA_keep H.1) (lo 1 (by omega) (by omega)) ?_ (LI_cf (LI_same (fun i h1 h2 => lo i (by omega) (by omega)) (lo 1 (by omega) (by omega)) H.2.2.2.2.2.2) rfl c)⟩
  exact HR_gen H.1.1 H.2.2.2.1 c (Or.inl ⟨rfl, sm _ _ (by omega) (by omega)⟩) (Or.inl ⟨rfl, lo 0 (by omega) (by omega), sm _ _ (by omega) (by omega), sm _ _ (by omega) (by omega)⟩) (Or.inl ⟨rfl, lo 12 (by omega) (by omega), fun i h1 h2 => kpA_lo (Or.inr h1) (by omega) hn⟩) (Or.inr P) (Or.inl ⟨rfl, lo 4 (by omega) (by omega), sm _ _ (by omega) (by omega)⟩) (Or.inl ⟨rfl, lo 5 (by omega) (by omega), sm _ _ (by omega) (by omega)⟩) (Or.inl ⟨rfl, lo 6 (by omega) (by omega), sm _ _ (by omega) (by omega)⟩) (Or.inl ⟨rfl, lo 7 (by omega) (by omega), sm _ _ (by omega) (by omega)⟩) (Or.inl ⟨rfl, sm _ _ (by omega) (by omega)⟩) (by rw [d 11 (by omega) (by omega), lo 2 (by omega) (by omega)]; exact H.2.2.2.1.2.2.2.2.2.2.1) (by rw [d 12 (by omega) (by omega), lo 1 (by omega) (by omega)]; exact H.2.2.2.1.2.2.2.2.2.2.2)
theorem R_keep (ok : okA A) (H : RI A B TX h) : avE 1 239 [.ref 81] (sX L t lt rt rp sw h gl) (none, sX L t lt rt rp sw (va_up h 82 (kpA A)) gl) ∧ RI (kpA A) B TX (va_up h 82 (kpA A)) := by
  have C := r_keep (L := L) (t := t) (lt := lt) (rt := rt) (rp := rp) (sw := sw) (h := h) (gl := gl) (by rw [H.1]; exact ok.1)
  rw [H.1] at C
  have hn := gN_le (m := 30) ok.1 (i := 3) (by omega) (by decide)
  exact ⟨C, RI_up H rfl rfl rfl rfl (kpA_lo (Or.inl (by omega)) (by omega) hn)⟩
theorem e_isBeast (n : Nat) (hn : n ≤ 5) (e4 : h 14 4 = nI n) (b : Int32) : avE 0 91 [.ref 7, .int b] (sX L t lt rt rp sw h gl) (some (.int (bI (0 ≤ b.toInt ∧ b.toInt < n))), sX L t lt rt rp sw h gl) := by
  show avA _ 91 0 [.ref 7, .int (b)] [] _ _
  refine a_iload_1 rfl rfl ?_
  refine a_ifI_lt rfl rfl rfl rfl (fun c_1 => ?_) (fun c_1 => ?_)
  · refine a_iconst (v := (nI 0)) rfl rfl rfl ?_
    refine av_to (a_zret rfl rfl (Or.inl rfl)) (bz0 ?_)
    omega
  · refine a_iload_1 rfl rfl ?_
    refine a_aload_0 rfl rfl ?_
    refine a_getr rfl rfl rfl (fun _ _ _ => rfl) rfl ?_
    refine a_getr rfl rfl rfl (fun _ _ _ => rfl) rfl ?_
    refine a_geti rfl rfl rfl (fun _ _ _ => rfl) ?_
    refine a_as (y := nI (n)) e4 ?_
    refine a_cmpI_ge rfl rfl rfl rfl (nI_toInt (by omega)) (fun c_15 => ?_) (fun c_15 => ?_)
    · refine a_iconst (v := (nI 0)) rfl rfl rfl ?_
      refine av_to (a_zret rfl rfl (Or.inl rfl)) (bz0 ?_)
      omega
    · refine a_iconst (v := (nI 1)) rfl rfl rfl ?_
      refine a_goto rfl rfl ?_
      refine av_to (a_zret rfl rfl (Or.inr rfl)) (bz1 ?_)
      omega
theorem r_isBeast (n : Nat) (hn : n ≤ 5) (e0 : h 82 0 = nI n) (b : Int32) : avE 1 243 [.ref 81, .int b] (sX L t lt rt rp sw h gl) (some (.int (bI (0 ≤ b.toInt ∧ b.toInt < n))), sX L t lt rt rp sw h gl) := by
  show avA _ 243 0 [.ref 81, .int (b)] [] _ _
  refine a_iload_1 rfl rfl ?_
  refine a_iconst (v := (nI 0)) rfl rfl rfl ?_
  refine a_aload_0 rfl rfl ?_
  refine a_getr rfl rfl rfl (fun _ _ _ => rfl) rfl ?_
  refine a_iconst (v := (nI 0)) rfl rfl rfl ?_
  refine a_iald rfl rfl (Or.inl rfl) rfl (by omega) (by decide) ?_
  refine a_as (y := nI (n)) e0 ?_
  refine a_iconst (v := (nI 1)) rfl rfl rfl ?_
  refine a_isub rfl rfl ?_
  refine a_statI rfl rfl (r_isIn b (nI 0) (nI n - nI 1)) (Nat.le_of_ble_eq_true rfl) ⟨rfl, rfl, rfl⟩ rfl rfl rfl (Nat.le_of_ble_eq_true rfl) rfl ?_
  refine av_to (a_zret rfl rfl (bI_01 _)) ?_
  refine congrArg (fun v => (some (Value.int v), sX L t lt rt rp sw h gl)) (bI_iff ?_)
  rw [pk_sub_toInt (by omega) (by omega), show (nI 0).toInt = 0 from rfl]
  omega
theorem CI_e4 (H : CI A B TX R t lt h) : h 14 4 = nI (gN A 0) ∧ gN A 0 ≤ 5 := ⟨H.2.2.2.1.2.1.2.2.2.2.1.trans (gN_eq H.1.1 (by omega) (by decide)), gN_le (m := 5) H.1.1 (by omega) (by decide)⟩
theorem CI_op (H : CI A B TX R t lt h) : h 9 0 = bsI 30 (frA A) := (CI_rP H).1
theorem e_canLodge (H : CI A B TX R t lt h) (c : Int32) : avE 2 85 [.ref 7, .int c] (sX L t lt rt rp sw h gl) (some (.int (bI (lgP A c))), sX L t lt rt rp sw h gl) := by
  have e0 : h 14 0 = A 9 := H.2.2.2.1.2.1.1
  show avA _ 85 0 [.ref 7, .int (c)] [] _ _
  refine a_aload_0 rfl rfl ?_
  refine a_iload_1 rfl rfl ?_
  refine a_virtI rfl rfl (e_isFree (frA A) (CI_op H) c) (Nat.le_of_ble_eq_true rfl) ⟨rfl, rfl, rfl, rfl⟩ rfl rfl rfl (Nat.le_of_ble_eq_true rfl) rfl rfl ?_
  refine a_ifb_eq rfl rfl rfl (fun c_5 => ?_) (fun c_5 => ?_)
  · refine a_iconst (v := (nI 0)) rfl rfl rfl ?_
    refine av_to (a_zret rfl rfl (Or.inl rfl)) (bz0 ?_)
    first | exact ⟨c_5, c_19⟩ | exact fun q => q.2 c_19 | exact fun q => c_5 q.1
  · refine a_iload_1 rfl rfl ?_
    refine a_aload_0 rfl rfl ?_
    refine a_getr rfl rfl rfl (fun _ _ _ => rfl) rfl ?_
    refine a_getr rfl rfl rfl (fun _ _ _ => rfl) rfl ?_
    refine a_geti rfl rfl rfl (fun _ _ _ => rfl) ?_
    refine a_as (y := A 9) e0 ?_
    refine a_cmp_eq rfl rfl rfl (fun c_19 => ?_) (fun c_19 => ?_)
    · refine a_iconst (v := (nI 0)) rfl rfl rfl ?_
      refine av_to (a_zret rfl rfl (Or.inl rfl)) (bz0 ?_)
      first | exact ⟨c_5, c_19⟩ | exact fun q => q.2 c_19 | exact fun q => c_5 q.1
    · refine a_iconst (v := (nI 1)) rfl rfl rfl ?_
      refine a_goto rfl rfl ?_
      refine av_to (a_zret rfl rfl (Or.inr rfl)) (bz1 ?_)
      first | exact ⟨c_5, c_19⟩ | exact fun q => q.2 c_19 | exact fun q => c_5 q.1
theorem r_canLodge (H : RI A B TX h) (c : Int32) : avE 3 238 [.ref 81, .int c] (sX L t lt rt rp sw h gl) (some (.int (bI (lgP A c))), sX L t lt rt rp sw h gl) := by
  have e9 : h 82 9 = A 9 := by rw [H.1]
  have ef : frI (h 82) c ↔ opI (frA A) c := by rw [H.1]; exact frI_op A c
  show avA _ 238 0 [.ref 81, .int (c)] [] _ _
  refine a_aload_0 rfl rfl ?_
  refine a_iload_1 rfl rfl ?_
  refine a_virtI rfl rfl (r_isFree c) (Nat.le_of_ble_eq_true rfl) ⟨rfl, rfl, rfl, rfl⟩ rfl rfl rfl (Nat.le_of_ble_eq_true rfl) rfl rfl ?_
  refine a_ifb_eq rfl rfl rfl (fun c_5 => ?_) (fun c_5 => ?_)
  · refine a_iconst (v := (nI 0)) rfl rfl rfl ?_
    refine av_to (a_zret rfl rfl (Or.inl rfl)) (bz0 ?_)
    first | exact ⟨ef.mp c_5, fun q => c_16 q.symm⟩ | exact fun q => q.2 c_16.symm | exact fun q => c_5 (ef.mpr q.1)
  · refine a_aload_0 rfl rfl ?_
    refine a_getr rfl rfl rfl (fun _ _ _ => rfl) rfl ?_
    refine a_bipush (v := (nI 9)) rfl rfl rfl ?_
    refine a_iald rfl rfl (Or.inl rfl) rfl (by omega) (by decide) ?_
    refine a_as (y := A 9) e9 ?_
    refine a_iload_1 rfl rfl ?_
    refine a_cmp_eq rfl rfl rfl (fun c_16 => ?_) (fun c_16 => ?_)
    · refine a_iconst (v := (nI 0)) rfl rfl rfl ?_
      refine av_to (a_zret rfl rfl (Or.inl rfl)) (bz0 ?_)
      first | exact ⟨ef.mp c_5, fun q => c_16 q.symm⟩ | exact fun q => q.2 c_16.symm | exact fun q => c_5 (ef.mpr q.1)
    · refine a_iconst (v := (nI 1)) rfl rfl rfl ?_
      refine a_goto rfl rfl ?_
      refine av_to (a_zret rfl rfl (Or.inr rfl)) (bz1 ?_)
      first | exact ⟨ef.mp c_5, fun q => c_16 q.symm⟩ | exact fun q => q.2 c_16.symm | exact fun q => c_5 (ef.mpr q.1)
theorem e_canLead (H : CI A B TX R t lt h) (b c : Int32) : ∃ F G, avE 3 90 [.ref 7, .int b, .int c] (sX L t lt rt rp sw h gl) (some (.int (bI (ldP A b c))), sX L t lt rt rp sw (va_up (va_up h 9 F) 10 G) gl) ∧ rPth (frA A) F G := by
  obtain ⟨e4, h5⟩ := CI_e4 H
  by_cases hb : 0 ≤ b.toInt ∧ b.toInt < gN A 0
  · obtain ⟨n, hn, rfl, en⟩ := cell_of (m := gN A 0) hb.1 hb.2
    have ea : h 15 n = A (13 + 5 * n) := (H.2.2.2.1.2.1.2.2.2.2.2 n hn).1
    obtain ⟨F, G, C, P⟩ := e_between (L := L) (t := t) (lt := lt) (rt := rt) (rp := rp) (sw := sw) (gl := gl) (A (13 + 5 * n)) c (frA A) (CI_rP H)
    by_cases hc : A (13 + 5 * n) = c
    · refine ⟨h 9, h 10, ?_, CI_rP H⟩
      rw [up_id, up_id]
      show avA _ 90 0 [.ref 7, .int (nI (n)), .int (c), mvU] [] _ _
      refine a_aload_0 rfl rfl ?_
      refine a_iload_1 rfl rfl ?_
      refine a_virtI rfl rfl (e_isBeast (gN A 0) h5 e4 (nI n)) (Nat.le_of_ble_eq_true rfl) ⟨rfl, rfl, rfl, rfl⟩ rfl rfl rfl (Nat.le_of_ble_eq_true rfl) rfl rfl ?_
      refine a_ifb_ne rfl rfl rfl (fun _ => ?_) (fun c_5 => by first | exact absurd hb c_5 | exact absurd c_5 hb)
      refine a_aload_0 rfl rfl ?_
      refine a_getr rfl rfl rfl (fun _ _ _ => rfl) rfl ?_
      refine a_getr rfl rfl rfl (fun _ _ _ => rfl) rfl ?_
      refine a_getr rfl rfl rfl (fun _ _ _ => rfl) rfl ?_
      refine a_iload_1 rfl rfl ?_
      refine a_iald rfl rfl (Or.inl rfl) rfl (by omega) (by decide) ?_
      refine a_as (y := A (13 + 5 * n)) ea ?_
      refine a_istore_3 rfl rfl rfl ?_
      refine a_iload_3 rfl rfl ?_
      refine a_iload_2 rfl rfl ?_
      refine a_cmp_eq rfl rfl rfl (fun _ => ?_) (fun c_25 => by first | exact absurd hc c_25 | exact absurd c_25 hc)
      refine a_iconst (v := (nI 0)) rfl rfl rfl ?_
      refine av_to (a_zret rfl rfl (Or.inl rfl)) (bz0 ?_)
      exact fun q => q.2.1 (by rw [en]; exact hc)
    · refine ⟨F, G, ?_, P⟩
      show avA _ 90 0 [.ref 7, .int (nI (n)), .int (c), mvU] [] _ _
      refine a_aload_0 rfl rfl ?_
      refine a_iload_1 rfl rfl ?_
      refine a_virtI rfl rfl (e_isBeast (gN A 0) h5 e4 (nI n)) (Nat.le_of_ble_eq_true rfl) ⟨rfl, rfl, rfl, rfl⟩ rfl rfl rfl (Nat.le_of_ble_eq_true rfl) rfl rfl ?_
      refine a_ifb_ne rfl rfl rfl (fun _ => ?_) (fun c_5 => by first | exact absurd hb c_5 | exact absurd c_5 hb)
      refine a_aload_0 rfl rfl ?_
      refine a_getr rfl rfl rfl (fun _ _ _ => rfl) rfl ?_
      refine a_getr rfl rfl rfl (fun _ _ _ => rfl) rfl ?_
      refine a_getr rfl rfl rfl (fun _ _ _ => rfl) rfl ?_
      refine a_iload_1 rfl rfl ?_
      refine a_iald rfl rfl (Or.inl rfl) rfl (by omega) (by decide) ?_
      refine a_as (y := A (13 + 5 * n)) ea ?_
      refine a_istore_3 rfl rfl rfl ?_
      refine a_iload_3 rfl rfl ?_
      refine a_iload_2 rfl rfl ?_
      refine a_cmp_eq rfl rfl rfl (fun c_25 => by first | exact absurd c_25 hc | exact absurd hc c_25) (fun _ => ?_)
      refine a_aload_0 rfl rfl ?_
      refine a_getr rfl rfl rfl (fun _ _ _ => rfl) rfl ?_
      refine a_iload_3 rfl rfl ?_
      refine a_iload_2 rfl rfl ?_
      refine a_virtI rfl rfl (C) (Nat.le_of_ble_eq_true rfl) ⟨rfl, rfl, rfl, rfl⟩ rfl rfl rfl (Nat.le_of_ble_eq_true rfl) rfl rfl ?_
      refine a_iconst (v := (-1)) rfl rfl rfl ?_
      refine a_cmp_eq rfl rfl rfl (fun c_38 => ?_) (fun c_38 => ?_)
      · refine a_iconst (v := (nI 0)) rfl rfl rfl ?_
        refine av_to (a_zret rfl rfl (Or.inl rfl)) (bz0 ?_)
        first | exact ⟨hb, by rw [en]; exact hc, by rw [en]; exact c_38⟩ | exact fun q => q.2.2 (by rw [en]; exact c_38)
      · refine a_iconst (v := (nI 1)) rfl rfl rfl ?_
        refine a_goto rfl rfl ?_
        refine av_to (a_zret rfl rfl (Or.inr rfl)) (bz1 ?_)
        first | exact ⟨hb, by rw [en]; exact hc, by rw [en]; exact c_38⟩ | exact fun q => q.2.2 (by rw [en]; exact c_38)
  · refine ⟨h 9, h 10, ?_, CI_rP H⟩
    rw [up_id, up_id]
    show avA _ 90 0 [.ref 7, .int (b), .int (c), mvU] [] _ _
    refine a_aload_0 rfl rfl ?_
    refine a_iload_1 rfl rfl ?_
    refine a_virtI rfl rfl (e_isBeast (gN A 0) h5 e4 b) (Nat.le_of_ble_eq_true rfl) ⟨rfl, rfl, rfl, rfl⟩ rfl rfl rfl (Nat.le_of_ble_eq_true rfl) rfl rfl ?_
    refine a_ifb_ne rfl rfl rfl (fun c_5 => by first | exact absurd c_5 hb | exact absurd hb c_5) (fun _ => ?_)
    refine a_iconst (v := (nI 0)) rfl rfl rfl ?_
    refine av_to (a_zret rfl rfl (Or.inl rfl)) (bz0 ?_)
    exact fun q => hb q.1
theorem btw_op {op : Nat → Bool} {a c : Int32} (h : btw op a c ≠ -1) : opI op c := by
  unfold btw at h
  by_cases q : inC a ∧ inC c
  · rw [if_pos q] at h
    obtain ⟨n, hn, rfl⟩ := inC_of q.2
    rw [nI_toInt (by omega)] at h
    rcases fk_cases (g := grow op (sgl a)) (n := 30) (c := n) (by omega) with w | ⟨k, _, _, g, _⟩
    · exact absurd w h
    · refine ⟨q.2.1, q.2.2, ?_⟩
      rw [nI_toInt (by omega)]
      exact grow_th g
  · rw [if_neg q] at h
    exact absurd rfl h
theorem r_canLead (ok : okA A) (H : RI A B TX h) (b c : Int32) : ∃ G, avE 6 242 [.ref 81, .int b, .int c] (sX L t lt rt rp sw h gl) (some (.int (bI (ldP A b c))), sX L t lt rt rp sw (va_up h 91 G) gl) := by
  have h5 := gN_le (m := 5) ok.1 (i := 0) (by omega) (by decide)
  have e0 : h 82 0 = nI (gN A 0) := by rw [H.1]; exact gN_eq ok.1 (by omega) (by decide)
  have ef : frI (h 82) c ↔ opI (frA A) c := by rw [H.1]; exact frI_op A c
  by_cases hb : 0 ≤ b.toInt ∧ b.toInt < gN A 0
  · obtain ⟨n, hn, rfl, en⟩ := cell_of (m := gN A 0) hb.1 hb.2
    have ea : h 82 (13 + 5 * n) = A (13 + 5 * n) := by rw [H.1]
    have ba := ok.1 (13 + 5 * n) (by omega)
    unfold inB at ba
    rw [bd_at (by omega)] at ba
    dsimp only at ba
    have ia : inC (A (13 + 5 * n)) := ⟨by omega, by omega⟩
    by_cases hf : opI (frA A) c
    · obtain ⟨y, hy, rfl⟩ := inC_of ⟨hf.1, hf.2.1⟩
      by_cases hc : A (13 + 5 * n) = nI y
      · refine ⟨h 91, ?_⟩
        rw [up_id]
        show avA _ 242 0 [.ref 81, .int (nI (n)), .int (nI (y))] [] _ _
        refine a_aload_0 rfl rfl ?_
        refine a_iload_1 rfl rfl ?_
        refine a_virtI rfl rfl (r_isBeast (gN A 0) h5 e0 (nI n)) (Nat.le_of_ble_eq_true rfl) ⟨rfl, rfl, rfl, rfl⟩ rfl rfl rfl (Nat.le_of_ble_eq_true rfl) rfl rfl ?_
        refine a_ifb_eq rfl rfl rfl (fun c_5 => by first | exact absurd c_5 (not_not_intro hb) | exact absurd (not_not_intro hb) c_5) (fun _ => ?_)
        refine a_aload_0 rfl rfl ?_
        refine a_iload_2 rfl rfl ?_
        refine a_virtI rfl rfl (r_isFree (nI y)) (Nat.le_of_ble_eq_true rfl) ⟨rfl, rfl, rfl, rfl⟩ rfl rfl rfl (Nat.le_of_ble_eq_true rfl) rfl rfl ?_
        refine a_ifb_eq rfl rfl rfl (fun c_13 => by first | exact absurd c_13 (not_not_intro (ef.mpr hf)) | exact absurd (not_not_intro (ef.mpr hf)) c_13) (fun _ => ?_)
        refine a_aload_0 rfl rfl ?_
        refine a_iload_1 rfl rfl ?_
        refine a_iconst (v := (nI 0)) rfl rfl rfl ?_
        refine a_virtI rfl rfl (r_get n 0 (by omega) (by omega)) (Nat.le_of_ble_eq_true rfl) ⟨rfl, rfl, rfl, rfl⟩ rfl rfl rfl (Nat.le_of_ble_eq_true rfl) rfl rfl ?_
        refine a_as (y := A (13 + 5 * n)) ea ?_
        refine a_iload_2 rfl rfl ?_
        refine a_cmp_eq rfl rfl rfl (fun _ => ?_) (fun c_23 => by first | exact absurd hc c_23 | exact absurd c_23 hc)
        refine a_iconst (v := (nI 0)) rfl rfl rfl ?_
        refine av_to (a_zret rfl rfl (Or.inl rfl)) (bz0 ?_)
        exact fun q => q.2.1 (by rw [en]; exact hc)
      · have eb : btw (frA A) (A (13 + 5 * n)) (nI y) = farA (h 82) (A (13 + 5 * n)) y := by
          unfold btw
          rw [if_pos ⟨ia, ⟨hf.1, hf.2.1⟩⟩, nI_toInt (by omega), H.1]
          rfl
        refine ⟨rw1 30 (farA (h 82) (A (13 + 5 * n))) (h 91), ?_⟩
        show avA _ 242 0 [.ref 81, .int (nI (n)), .int (nI (y))] [] _ _
        refine a_aload_0 rfl rfl ?_
        refine a_iload_1 rfl rfl ?_
        refine a_virtI rfl rfl (r_isBeast (gN A 0) h5 e0 (nI n)) (Nat.le_of_ble_eq_true rfl) ⟨rfl, rfl, rfl, rfl⟩ rfl rfl rfl (Nat.le_of_ble_eq_true rfl) rfl rfl ?_
        refine a_ifb_eq rfl rfl rfl (fun c_5 => by first | exact absurd c_5 (not_not_intro hb) | exact absurd (not_not_intro hb) c_5) (fun _ => ?_)
        refine a_aload_0 rfl rfl ?_
        refine a_iload_2 rfl rfl ?_
        refine a_virtI rfl rfl (r_isFree (nI y)) (Nat.le_of_ble_eq_true rfl) ⟨rfl, rfl, rfl, rfl⟩ rfl rfl rfl (Nat.le_of_ble_eq_true rfl) rfl rfl ?_
        refine a_ifb_eq rfl rfl rfl (fun c_13 => by first | exact absurd c_13 (not_not_intro (ef.mpr hf)) | exact absurd (not_not_intro (ef.mpr hf)) c_13) (fun _ => ?_)
        refine a_aload_0 rfl rfl ?_
        refine a_iload_1 rfl rfl ?_
        refine a_iconst (v := (nI 0)) rfl rfl rfl ?_
        refine a_virtI rfl rfl (r_get n 0 (by omega) (by omega)) (Nat.le_of_ble_eq_true rfl) ⟨rfl, rfl, rfl, rfl⟩ rfl rfl rfl (Nat.le_of_ble_eq_true rfl) rfl rfl ?_
        refine a_as (y := A (13 + 5 * n)) ea ?_
        refine a_iload_2 rfl rfl ?_
        refine a_cmp_eq rfl rfl rfl (fun c_23 => by first | exact absurd c_23 hc | exact absurd hc c_23) (fun _ => ?_)
        refine a_aload_0 rfl rfl ?_
        refine a_aload_0 rfl rfl ?_
        refine a_iload_1 rfl rfl ?_
        refine a_iconst (v := (nI 0)) rfl rfl rfl ?_
        refine a_virtI rfl rfl (r_get n 0 (by omega) (by omega)) (Nat.le_of_ble_eq_true rfl) ⟨rfl, rfl, rfl, rfl⟩ rfl rfl rfl (Nat.le_of_ble_eq_true rfl) rfl rfl ?_
        refine a_as (y := A (13 + 5 * n)) ea ?_
        refine a_iload_2 rfl rfl ?_
        refine a_virtI rfl rfl (r_stepsOf (A (13 + 5 * n)) y hy) (Nat.le_of_ble_eq_true rfl) ⟨rfl, rfl, rfl, rfl⟩ rfl rfl rfl (Nat.le_of_ble_eq_true rfl) rfl rfl ?_
        refine a_iconst (v := (-1)) rfl rfl rfl ?_
        refine a_cmp_eq rfl rfl rfl (fun c_38 => ?_) (fun c_38 => ?_)
        · refine a_iconst (v := (nI 0)) rfl rfl rfl ?_
          refine av_to (a_zret rfl rfl (Or.inl rfl)) (bz0 ?_)
          first | exact ⟨hb, by rw [en]; exact hc, by rw [en, eb]; exact c_38⟩ | exact fun q => q.2.2 (by rw [en, eb]; exact c_38)
        · refine a_iconst (v := (nI 1)) rfl rfl rfl ?_
          refine a_goto rfl rfl ?_
          refine av_to (a_zret rfl rfl (Or.inr rfl)) (bz1 ?_)
          first | exact ⟨hb, by rw [en]; exact hc, by rw [en, eb]; exact c_38⟩ | exact fun q => q.2.2 (by rw [en, eb]; exact c_38)
    · refine ⟨h 91, ?_⟩
      rw [up_id]
      show avA _ 242 0 [.ref 81, .int (nI (n)), .int (c)] [] _ _
      refine a_aload_0 rfl rfl ?_
      refine a_iload_1 rfl rfl ?_
      refine a_virtI rfl rfl (r_isBeast (gN A 0) h5 e0 (nI n)) (Nat.le_of_ble_eq_true rfl) ⟨rfl, rfl, rfl, rfl⟩ rfl rfl rfl (Nat.le_of_ble_eq_true rfl) rfl rfl ?_
      refine a_ifb_eq rfl rfl rfl (fun c_5 => by first | exact absurd c_5 (not_not_intro hb) | exact absurd (not_not_intro hb) c_5) (fun _ => ?_)
      refine a_aload_0 rfl rfl ?_
      refine a_iload_2 rfl rfl ?_
      refine a_virtI rfl rfl (r_isFree c) (Nat.le_of_ble_eq_true rfl) ⟨rfl, rfl, rfl, rfl⟩ rfl rfl rfl (Nat.le_of_ble_eq_true rfl) rfl rfl ?_
      refine a_ifb_eq rfl rfl rfl (fun _ => ?_) (fun c_13 => by first | exact absurd (fun q => hf (ef.mp q)) c_13 | exact absurd c_13 (fun q => hf (ef.mp q)))
      refine a_iconst (v := (nI 0)) rfl rfl rfl ?_
      refine av_to (a_zret rfl rfl (Or.inl rfl)) (bz0 ?_)
      exact fun q => hf (btw_op q.2.2)
  · refine ⟨h 91, ?_⟩
    rw [up_id]
    show avA _ 242 0 [.ref 81, .int (b), .int (c)] [] _ _
    refine a_aload_0 rfl rfl ?_
    refine a_iload_1 rfl rfl ?_
    refine a_virtI rfl rfl (r_isBeast (gN A 0) h5 e0 b) (Nat.le_of_ble_eq_true rfl) ⟨rfl, rfl, rfl, rfl⟩ rfl rfl rfl (Nat.le_of_ble_eq_true rfl) rfl rfl ?_
    refine a_ifb_eq rfl rfl rfl (fun _ => ?_) (fun c_5 => by first | exact absurd hb c_5 | exact absurd c_5 hb)
    refine a_iconst (v := (nI 0)) rfl rfl rfl ?_
    refine av_to (a_zret rfl rfl (Or.inl rfl)) (bz0 ?_)
    exact fun q => hb q.1
end MO
theorem CF_cl {S : List Nat} {h h' : Nat → Nat → Int32} (hS : S.all (fun o => clS.contains o) = true) (c : CF S h h') : CF clS h h' := CF_mono (fun o ho => List.all_eq_true.mp hS o ho) c
theorem CF_rf {S : List Nat} {h h' : Nat → Nat → Int32} (hS : S.all (fun o => rfS.contains o) = true) (c : CF S h h') : CF rfS h h' := CF_mono (fun o ho => List.all_eq_true.mp hS o ho) c
section M2
variable {A B : Nat → Int32} {TX : Nat → Txt}
theorem p_lodge (hA : okA A) (c : Int32) : ∃ (b' : Bool) (A' : Nat → Int32), opP 0 3 84 [.ref 7, .int c] 4 237 [.ref 81, .int c] TX A B (bB b') A' B := by
  have hk := okA_keep hA
  by_cases hc : lgP A c
  · have b9 : inB 9 c := by have := hc.1.1; have := hc.1.2.1; exact ⟨show (-1 : Int) ≤ _ by omega, show _ ≤ (29 : Int) by omega⟩
    have e : mEq (kpA A) (va_up (kpA A) 9 c) := mEq_up (by omega)
    have ok := (mEq_ok hk (KL_keep hA.1) e (rOK_up hk.1 b9)).1
    refine ⟨true, va_up (kpA A) 9 c, ?_, ?_, ok, gN_c ((va_up_ne _ _ (by omega)).trans (kpA_1 hA.1))⟩
    · intro L t lt rt rp sw h gl R H hR
      obtain ⟨h1, C1, c1, H1⟩ := C_keep (L := L) (rt := rt) (rp := rp) (sw := sw) (gl := gl) H
      have c2 : CF [14] h1 (mvPut h1 14 0 c) := CF_put CF_refl rfl
      refine ⟨mvPut h1 14 0 c, lt, R, sw, ?_, CF_trans (CF_cl rfl c1) (CF_cl rfl c2), CI_mom H1 (KL_keep hA.1) e (rOK_up hk.1 b9) c2 rfl rfl rfl (MR_moon H1.2.2.2.1.2.1) (BK_A H1.2.2.2.1.2.2.1 rfl rfl rfl (va_up_ne _ _ (by omega)) (same_up (by omega))) (LI_cf (LI_same (mEq_same e) (va_up_ne _ _ (by omega)) H1.2.2.2.2.2.2) rfl c2), by omega, by omega⟩
      show avA _ 84 0 [.ref 7, .int (c)] [] _ _
      refine a_aload_0 rfl rfl ?_
      refine a_iload_1 rfl rfl ?_
      refine a_virtI rfl rfl (e_canLodge H c) (Nat.le_of_ble_eq_true rfl) ⟨rfl, rfl, rfl, rfl⟩ rfl rfl rfl (Nat.le_of_ble_eq_true rfl) rfl rfl ?_
      refine a_ifb_ne rfl rfl rfl (fun _ => ?_) (fun c_5 => by first | exact absurd hc c_5 | exact absurd c_5 hc)
      refine a_aload_0 rfl rfl ?_
      refine a_getr rfl rfl rfl (fun _ _ _ => rfl) rfl ?_
      refine a_virt0 rfl rfl (C1) (Nat.le_of_ble_eq_true rfl) ⟨rfl, rfl, rfl, rfl⟩ rfl rfl rfl (Nat.le_of_ble_eq_true rfl) rfl rfl ?_
      refine a_aload_0 rfl rfl ?_
      refine a_getr rfl rfl rfl (fun _ _ _ => rfl) rfl ?_
      refine a_getr rfl rfl rfl (fun _ _ _ => rfl) rfl ?_
      refine a_iload_1 rfl rfl ?_
      refine a_puti rfl rfl rfl rfl ?_
      refine a_iconst (v := (nI 1)) rfl rfl rfl ?_
      exact a_zret rfl rfl (Or.inr rfl)
    · intro L t lt rt rp sw h gl ok2 H
      obtain ⟨C1, H1⟩ := R_keep (L := L) (t := t) (lt := lt) (rt := rt) (rp := rp) (sw := sw) (gl := gl) ok2 H
      refine ⟨va_up h 82 (va_up (kpA A) 9 c), gl, ?_, CF_up CF_refl rfl, fun _ _ => rfl, RI_up H1 rfl rfl rfl rfl (va_up_ne _ _ (by omega))⟩
      show avA _ 237 0 [.ref 81, .int (c)] [] _ _
      refine a_aload_0 rfl rfl ?_
      refine a_iload_1 rfl rfl ?_
      refine a_virtI rfl rfl (r_canLodge H c) (Nat.le_of_ble_eq_true rfl) ⟨rfl, rfl, rfl, rfl⟩ rfl rfl rfl (Nat.le_of_ble_eq_true rfl) rfl rfl ?_
      refine a_ifb_ne rfl rfl rfl (fun _ => ?_) (fun c_5 => by first | exact absurd hc c_5 | exact absurd c_5 hc)
      refine a_aload_0 rfl rfl ?_
      refine a_virt0 rfl rfl (C1) (Nat.le_of_ble_eq_true rfl) ⟨rfl, rfl, rfl, rfl⟩ rfl rfl rfl (Nat.le_of_ble_eq_true rfl) rfl rfl ?_
      refine a_aload_0 rfl rfl ?_
      refine a_getr rfl rfl rfl (fun _ _ _ => rfl) rfl ?_
      refine a_bipush (v := (nI 9)) rfl rfl rfl ?_
      refine a_iload_1 rfl rfl ?_
      refine a_iast rfl rfl rfl rfl (by omega) (by decide) ?_
      rw [up_put]
      refine a_iconst (v := (nI 1)) rfl rfl rfl ?_
      exact a_zret rfl rfl (Or.inr rfl)
  · refine ⟨false, A, ?_, ?_, hA, rfl⟩
    · intro L t lt rt rp sw h gl R H hR
      refine ⟨h, lt, R, sw, ?_, CF_refl, H, by omega, by omega⟩
      show avA _ 84 0 [.ref 7, .int (c)] [] _ _
      refine a_aload_0 rfl rfl ?_
      refine a_iload_1 rfl rfl ?_
      refine a_virtI rfl rfl (e_canLodge H c) (Nat.le_of_ble_eq_true rfl) ⟨rfl, rfl, rfl, rfl⟩ rfl rfl rfl (Nat.le_of_ble_eq_true rfl) rfl rfl ?_
      refine a_ifb_ne rfl rfl rfl (fun c_5 => by first | exact absurd c_5 hc | exact absurd hc c_5) (fun _ => ?_)
      refine a_iconst (v := (nI 0)) rfl rfl rfl ?_
      exact a_zret rfl rfl (Or.inl rfl)
    · intro L t lt rt rp sw h gl ok2 H
      refine ⟨h, gl, ?_, CF_refl, fun _ _ => rfl, H⟩
      show avA _ 237 0 [.ref 81, .int (c)] [] _ _
      refine a_aload_0 rfl rfl ?_
      refine a_iload_1 rfl rfl ?_
      refine a_virtI rfl rfl (r_canLodge H c) (Nat.le_of_ble_eq_true rfl) ⟨rfl, rfl, rfl, rfl⟩ rfl rfl rfl (Nat.le_of_ble_eq_true rfl) rfl rfl ?_
      refine a_ifb_ne rfl rfl rfl (fun c_5 => by first | exact absurd c_5 hc | exact absurd hc c_5) (fun _ => ?_)
      refine a_iconst (v := (nI 0)) rfl rfl rfl ?_
      exact a_zret rfl rfl (Or.inl rfl)
theorem p_out (hA : okA A) : ∃ (b' : Bool) (A' : Nat → Int32), opP 0 2 88 [.ref 7] 2 240 [.ref 81] TX A B (bB b') A' B := by
  have hk := okA_keep hA
  by_cases hc : A 9 = -1
  · refine ⟨false, A, ?_, ?_, hA, rfl⟩
    · intro L t lt rt rp sw h gl R H hR
      have e0 : h 14 0 = -1 := H.2.2.2.1.2.1.1.trans hc
      refine ⟨h, lt, R, sw, ?_, CF_refl, H, by omega, by omega⟩
      show avA _ 88 0 [.ref 7] [] _ _
      refine a_aload_0 rfl rfl ?_
      refine a_getr rfl rfl rfl (fun _ _ _ => rfl) rfl ?_
      refine a_getr rfl rfl rfl (fun _ _ _ => rfl) rfl ?_
      refine a_geti rfl rfl rfl (fun _ _ _ => rfl) ?_
      refine a_as (y := -1) e0 ?_
      refine a_iconst (v := (-1)) rfl rfl rfl ?_
      refine a_cmp_ne rfl rfl rfl (fun c_11 => by first | exact absurd c_11 (not_not_intro rfl) | exact absurd (not_not_intro rfl) c_11) (fun _ => ?_)
      refine a_iconst (v := (nI 0)) rfl rfl rfl ?_
      exact a_zret rfl rfl (Or.inl rfl)
    · intro L t lt rt rp sw h gl ok2 H
      refine ⟨h, gl, ?_, CF_refl, fun _ _ => rfl, H⟩
      show avA _ 240 0 [.ref 81] [] _ _
      refine a_aload_0 rfl rfl ?_
      refine a_getr rfl rfl rfl (fun _ _ _ => rfl) rfl ?_
      refine a_bipush (v := (nI 9)) rfl rfl rfl ?_
      refine a_iald rfl rfl (Or.inl rfl) rfl (by omega) (by decide) ?_
      refine a_as (y := -1) (by rw [H.1]; exact hc) ?_
      refine a_iconst (v := (-1)) rfl rfl rfl ?_
      refine a_cmp_ne rfl rfl rfl (fun c_8 => by first | exact absurd c_8 (not_not_intro rfl) | exact absurd (not_not_intro rfl) c_8) (fun _ => ?_)
      refine a_iconst (v := (nI 0)) rfl rfl rfl ?_
      exact a_zret rfl rfl (Or.inl rfl)
  · have b9 : inB 9 (-1) := ⟨by decide, by decide⟩
    have e : mEq (kpA A) (va_up (kpA A) 9 (-1)) := mEq_up (by omega)
    have ok := (mEq_ok hk (KL_keep hA.1) e (rOK_up hk.1 b9)).1
    refine ⟨true, va_up (kpA A) 9 (-1), ?_, ?_, ok, gN_c ((va_up_ne _ _ (by omega)).trans (kpA_1 hA.1))⟩
    · intro L t lt rt rp sw h gl R H hR
      have e0 : h 14 0 = A 9 := H.2.2.2.1.2.1.1
      obtain ⟨h1, C1, c1, H1⟩ := C_keep (L := L) (rt := rt) (rp := rp) (sw := sw) (gl := gl) H
      have c2 : CF [14] h1 (mvPut h1 14 0 (-1)) := CF_put CF_refl rfl
      refine ⟨mvPut h1 14 0 (-1), lt, R, sw, ?_, CF_trans (CF_cl rfl c1) (CF_cl rfl c2), CI_mom H1 (KL_keep hA.1) e (rOK_up hk.1 b9) c2 rfl rfl rfl (MR_moon H1.2.2.2.1.2.1) (BK_A H1.2.2.2.1.2.2.1 rfl rfl rfl (va_up_ne _ _ (by omega)) (same_up (by omega))) (LI_cf (LI_same (mEq_same e) (va_up_ne _ _ (by omega)) H1.2.2.2.2.2.2) rfl c2), by omega, by omega⟩
      show avA _ 88 0 [.ref 7] [] _ _
      refine a_aload_0 rfl rfl ?_
      refine a_getr rfl rfl rfl (fun _ _ _ => rfl) rfl ?_
      refine a_getr rfl rfl rfl (fun _ _ _ => rfl) rfl ?_
      refine a_geti rfl rfl rfl (fun _ _ _ => rfl) ?_
      refine a_as (y := A 9) e0 ?_
      refine a_iconst (v := (-1)) rfl rfl rfl ?_
      refine a_cmp_ne rfl rfl rfl (fun _ => ?_) (fun c_11 => by first | exact absurd hc c_11 | exact absurd c_11 hc)
      refine a_aload_0 rfl rfl ?_
      refine a_getr rfl rfl rfl (fun _ _ _ => rfl) rfl ?_
      refine a_virt0 rfl rfl (C1) (Nat.le_of_ble_eq_true rfl) ⟨rfl, rfl, rfl, rfl⟩ rfl rfl rfl (Nat.le_of_ble_eq_true rfl) rfl rfl ?_
      refine a_aload_0 rfl rfl ?_
      refine a_getr rfl rfl rfl (fun _ _ _ => rfl) rfl ?_
      refine a_getr rfl rfl rfl (fun _ _ _ => rfl) rfl ?_
      refine a_iconst (v := (-1)) rfl rfl rfl ?_
      refine a_puti rfl rfl rfl rfl ?_
      refine a_iconst (v := (nI 1)) rfl rfl rfl ?_
      exact a_zret rfl rfl (Or.inr rfl)
    · intro L t lt rt rp sw h gl ok2 H
      obtain ⟨C1, H1⟩ := R_keep (L := L) (t := t) (lt := lt) (rt := rt) (rp := rp) (sw := sw) (gl := gl) ok2 H
      refine ⟨va_up h 82 (va_up (kpA A) 9 (-1)), gl, ?_, CF_up CF_refl rfl, fun _ _ => rfl, RI_up H1 rfl rfl rfl rfl (va_up_ne _ _ (by omega))⟩
      show avA _ 240 0 [.ref 81] [] _ _
      refine a_aload_0 rfl rfl ?_
      refine a_getr rfl rfl rfl (fun _ _ _ => rfl) rfl ?_
      refine a_bipush (v := (nI 9)) rfl rfl rfl ?_
      refine a_iald rfl rfl (Or.inl rfl) rfl (by omega) (by decide) ?_
      refine a_as (y := A 9) (by rw [H.1]) ?_
      refine a_iconst (v := (-1)) rfl rfl rfl ?_
      refine a_cmp_ne rfl rfl rfl (fun _ => ?_) (fun c_8 => by first | exact absurd hc c_8 | exact absurd c_8 hc)
      refine a_aload_0 rfl rfl ?_
      refine a_virt0 rfl rfl (C1) (Nat.le_of_ble_eq_true rfl) ⟨rfl, rfl, rfl, rfl⟩ rfl rfl rfl (Nat.le_of_ble_eq_true rfl) rfl rfl ?_
      refine a_aload_0 rfl rfl ?_
      refine a_getr rfl rfl rfl (fun _ _ _ => rfl) rfl ?_
      refine a_bipush (v := (nI 9)) rfl rfl rfl ?_
      refine a_iconst (v := (-1)) rfl rfl rfl ?_
      refine a_iast rfl rfl rfl rfl (by omega) (by decide) ?_
      rw [up_put]
      refine a_iconst (v := (nI 1)) rfl rfl rfl ?_
      exact a_zret rfl rfl (Or.inr rfl)
theorem p_lead (hA : okA A) (b c : Int32) : ∃ (b' : Bool) (A' : Nat → Int32), opP 0 4 89 [.ref 7, .int b, .int c] 7 241 [.ref 81, .int b, .int c] TX A B (bB b') A' B := by
  have hk := okA_keep hA
  by_cases hc : ldP A b c
  · obtain ⟨n, hn, rfl, en⟩ := cell_of (m := gN A 0) hc.1.1 hc.1.2
    have h5 := gN_le (m := 5) hA.1 (i := 0) (by omega) (by decide)
    have hop := btw_op hc.2.2
    have b9 : inB (13 + 5 * n) c := by unfold inB; rw [bd_at (by omega)]; have h1 := hop.1; have h2 := hop.2.1; exact ⟨h1, show _ ≤ (29 : Int) by omega⟩
    have e : mEq (kpA A) (va_up (kpA A) (13 + 5 * n) c) := mEq_up (Or.inr (Or.inl ⟨n, by omega, rfl⟩))
    have ok := (mEq_ok hk (KL_keep hA.1) e (rOK_up hk.1 b9)).1
    refine ⟨true, va_up (kpA A) (13 + 5 * n) c, ?_, ?_, ok, gN_c ((va_up_ne _ _ (by omega)).trans (kpA_1 hA.1))⟩
    · intro L t lt rt rp sw h gl R H hR
      obtain ⟨F, G, Cc, P⟩ := e_canLead (L := L) (rt := rt) (rp := rp) (sw := sw) (gl := gl) H (nI n) c
      obtain ⟨h1, C1, c1, H1⟩ := C_keep (L := L) (rt := rt) (rp := rp) (sw := sw) (gl := gl) (CI_path H P)
      have c2 : CF [15] h1 (mvPut h1 15 n c) := CF_put CF_refl rfl
      refine ⟨mvPut h1 15 n c, lt, R, sw, ?_, CF_trans (CF_cl rfl CF_path) (CF_trans (CF_cl rfl c1) (CF_cl rfl c2)), CI_mom H1 (KL_keep hA.1) e (rOK_up hk.1 b9) c2 rfl rfl rfl (MR_at H1.2.2.2.1.2.1) (BK_A H1.2.2.2.1.2.2.1 rfl rfl rfl (va_up_ne _ _ (by omega)) (same_up (by omega))) (LI_cf (LI_same (mEq_same e) (va_up_ne _ _ (by omega)) H1.2.2.2.2.2.2) rfl c2), by omega, by omega⟩
      show avA _ 89 0 [.ref 7, .int (nI (n)), .int (c)] [] _ _
      refine a_aload_0 rfl rfl ?_
      refine a_iload_1 rfl rfl ?_
      refine a_iload_2 rfl rfl ?_
      refine a_virtI rfl rfl (Cc) (Nat.le_of_ble_eq_true rfl) ⟨rfl, rfl, rfl, rfl⟩ rfl rfl rfl (Nat.le_of_ble_eq_true rfl) rfl rfl ?_
      refine a_ifb_ne rfl rfl rfl (fun _ => ?_) (fun c_6 => by first | exact absurd hc c_6 | exact absurd c_6 hc)
      refine a_aload_0 rfl rfl ?_
      refine a_getr rfl rfl rfl (fun _ _ _ => rfl) rfl ?_
      refine a_virt0 rfl rfl (C1) (Nat.le_of_ble_eq_true rfl) ⟨rfl, rfl, rfl, rfl⟩ rfl rfl rfl (Nat.le_of_ble_eq_true rfl) rfl rfl ?_
      refine a_aload_0 rfl rfl ?_
      refine a_getr rfl rfl rfl (fun _ _ _ => rfl) rfl ?_
      refine a_getr rfl rfl rfl (fun _ _ _ => rfl) rfl ?_
      refine a_getr rfl rfl rfl (fun _ _ _ => rfl) rfl ?_
      refine a_iload_1 rfl rfl ?_
      refine a_iload_2 rfl rfl ?_
      refine a_iast rfl rfl rfl rfl (by omega) (by decide) ?_
      refine a_iconst (v := (nI 1)) rfl rfl rfl ?_
      exact a_zret rfl rfl (Or.inr rfl)
    · intro L t lt rt rp sw h gl ok2 H
      obtain ⟨G, Cc⟩ := r_canLead (L := L) (t := t) (lt := lt) (rt := rt) (rp := rp) (sw := sw) (gl := gl) ok2 H (nI n) c
      have H0 : RI A B TX (va_up h 91 G) := RI_cf H (S := [91]) rfl (CF_up CF_refl rfl)
      obtain ⟨C1, H1⟩ := R_keep (L := L) (t := t) (lt := lt) (rt := rt) (rp := rp) (sw := sw) (gl := gl) ok2 H0
      refine ⟨va_up (va_up h 91 G) 82 (va_up (kpA A) (13 + 5 * n) c), gl, ?_, CF_up (CF_up CF_refl rfl) rfl, fun _ _ => rfl, RI_up H1 rfl rfl rfl rfl (va_up_ne _ _ (by omega))⟩
      show avA _ 241 0 [.ref 81, .int (nI (n)), .int (c)] [] _ _
      refine a_aload_0 rfl rfl ?_
      refine a_iload_1 rfl rfl ?_
      refine a_iload_2 rfl rfl ?_
      refine a_virtI rfl rfl (Cc) (Nat.le_of_ble_eq_true rfl) ⟨rfl, rfl, rfl, rfl⟩ rfl rfl rfl (Nat.le_of_ble_eq_true rfl) rfl rfl ?_
      refine a_ifb_ne rfl rfl rfl (fun _ => ?_) (fun c_6 => by first | exact absurd hc c_6 | exact absurd c_6 hc)
      refine a_aload_0 rfl rfl ?_
      refine a_virt0 rfl rfl (C1) (Nat.le_of_ble_eq_true rfl) ⟨rfl, rfl, rfl, rfl⟩ rfl rfl rfl (Nat.le_of_ble_eq_true rfl) rfl rfl ?_
      refine a_aload_0 rfl rfl ?_
      refine a_iload_1 rfl rfl ?_
      refine a_iconst (v := (nI 0)) rfl rfl rfl ?_
      refine a_iload_2 rfl rfl ?_
      refine a_virt0 rfl rfl (r_put n 0 c (by omega) (by omega)) (Nat.le_of_ble_eq_true rfl) ⟨rfl, rfl, rfl, rfl⟩ rfl rfl rfl (Nat.le_of_ble_eq_true rfl) rfl rfl ?_
      rw [up_put]
      refine a_iconst (v := (nI 1)) rfl rfl rfl ?_
      exact a_zret rfl rfl (Or.inr rfl)
  · refine ⟨false, A, ?_, ?_, hA, rfl⟩
    · intro L t lt rt rp sw h gl R H hR
      obtain ⟨F, G, Cc, P⟩ := e_canLead (L := L) (rt := rt) (rp := rp) (sw := sw) (gl := gl) H b c
      refine ⟨_, lt, R, sw, ?_, CF_cl rfl CF_path, CI_path H P, by omega, by omega⟩
      show avA _ 89 0 [.ref 7, .int (b), .int (c)] [] _ _
      refine a_aload_0 rfl rfl ?_
      refine a_iload_1 rfl rfl ?_
      refine a_iload_2 rfl rfl ?_
      refine a_virtI rfl rfl (Cc) (Nat.le_of_ble_eq_true rfl) ⟨rfl, rfl, rfl, rfl⟩ rfl rfl rfl (Nat.le_of_ble_eq_true rfl) rfl rfl ?_
      refine a_ifb_ne rfl rfl rfl (fun c_6 => by first | exact absurd c_6 hc | exact absurd hc c_6) (fun _ => ?_)
      refine a_iconst (v := (nI 0)) rfl rfl rfl ?_
      exact a_zret rfl rfl (Or.inl rfl)
    · intro L t lt rt rp sw h gl ok2 H
      obtain ⟨G, Cc⟩ := r_canLead (L := L) (t := t) (lt := lt) (rt := rt) (rp := rp) (sw := sw) (gl := gl) ok2 H b c
      refine ⟨va_up h 91 G, gl, ?_, CF_up CF_refl rfl, fun _ _ => rfl, RI_cf H (S := [91]) rfl (CF_up CF_refl rfl)⟩
      show avA _ 241 0 [.ref 81, .int (b), .int (c)] [] _ _
      refine a_aload_0 rfl rfl ?_
      refine a_iload_1 rfl rfl ?_
      refine a_iload_2 rfl rfl ?_
      refine a_virtI rfl rfl (Cc) (Nat.le_of_ble_eq_true rfl) ⟨rfl, rfl, rfl, rfl⟩ rfl rfl rfl (Nat.le_of_ble_eq_true rfl) rfl rfl ?_
      refine a_ifb_ne rfl rfl rfl (fun c_6 => by first | exact absurd c_6 hc | exact absurd hc c_6) (fun _ => ?_)
      refine a_iconst (v := (nI 0)) rfl rfl rfl ?_
      exact a_zret rfl rfl (Or.inl rfl)
end M2
