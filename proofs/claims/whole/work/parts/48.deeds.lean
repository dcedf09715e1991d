/-! DEEDS: what changes the cells, both sides; the shapes of contracts -/
def clS : List Nat := [8, 9, 10, 11, 12, 13, 14, 15, 16, 17, 18, 19, 20, 21, 22, 23, 24, 25, 26, 27, 28, 29, 30, 31, 32, 33, 34, 35, 36, 37, 38, 39, 40, 41, 42, 43, 44, 45, 46, 47, 48, 49, 50, 51, 52, 53, 54, 55, 56, 57, 58, 59, 60, 61, 62, 63, 64, 65, 66, 73, 74, 75, 76, 77, 78, 80]
def rfS : List Nat := [81, 82, 83, 86, 87, 88, 89, 90, 91, 92, 93, 94, 95, 96, 97]
def opC (n d k : Nat) (as : List Value) (TX : Nat → Txt) (A B : Nat → Int32) (v : Int32) (A' B' : Nat → Int32) : Prop := ∀ (L t : Nat) (lt rt rp : Option Nat) (sw : Bool) (h : Nat → Nat → Int32) (gl : Nat → Nat → Int64) (R : Nat), CI A B TX R t lt h → R + n < 67108864 → ∃ h' lt' R' sw', avE d k as (sX L t lt rt rp sw h gl) (some (.int v), sX L t lt' rt rp sw' h' gl) ∧ CF clS h h' ∧ CI A' B' TX R' t lt' h' ∧ R ≤ R' ∧ R' ≤ R + n
def opR (d k : Nat) (as : List Value) (TX : Nat → Txt) (A B : Nat → Int32) (v : Int32) (A' B' : Nat → Int32) : Prop := ∀ (L t : Nat) (lt rt rp : Option Nat) (sw : Bool) (h : Nat → Nat → Int32) (gl : Nat → Nat → Int64), okA A → RI A B TX h → ∃ h' gl', avE d k as (sX L t lt rt rp sw h gl) (some (.int v), sX L t lt rt rp sw h' gl') ∧ CF rfS h h' ∧ (∀ j, j ≠ 26 → h' 81 j = h 81 j) ∧ RI A' B' TX h'
abbrev same (A A' : Nat → Int32) (a b : Nat) : Prop := ∀ i, a ≤ i → i < b → A' i = A i
theorem same_up {A : Nat → Int32} {i : Nat} {v : Int32} {a b : Nat} (h : i < a ∨ b ≤ i) : same A (va_up A i v) a b := fun j h1 h2 => va_up_ne _ _ (by omega)
theorem same_refl {A : Nat → Int32} {a b : Nat} : same A A a b := fun _ _ _ => rfl
theorem same_tr {A A' A'' : Nat → Int32} {a b : Nat} (h1 : same A A' a b) (h2 : same A' A'' a b) : same A A'' a b := fun i c d => (h2 i c d).trans (h1 i c d)
theorem MR_A {m : Nat} {A A' : Nat → Int32} {h : Nat → Nat → Int32} (hn : gN A 0 ≤ 5) (H : MR m A h) (e0 : A' 0 = A 0) (e1 : same A A' 8 12) (e2 : same A A' 13 38) : MR m A' h := by
  obtain ⟨a0, a1, a2, a3, a4, ab⟩ := H
  refine ⟨?_, ?_, ?_, ?_, ?_, fun b hb => ?_⟩
  · rw [e1 9 (by omega) (by omega)]; exact a0
  · rw [e1 10 (by omega) (by omega)]; exact a1
  · rw [e1 8 (by omega) (by omega)]; exact a2
  · rw [e1 11 (by omega) (by omega)]; exact a3
  · rw [e0]; exact a4
  · have : gN A' 0 = gN A 0 := gN_c e0
    rw [e2 (13 + 5 * b) (by omega) (by omega), e2 (14 + 5 * b) (by omega) (by omega), e2 (15 + 5 * b) (by omega) (by omega)]
    exact ab b (by omega)
theorem PR_A {o : Nat} {A A' : Nat → Int32} {h : Nat → Nat → Int32} (hA : rOK A) (H : PR o A h) (e3 : A' 3 = A 3) (es : same A A' 166 1696) : PR o A' h := by
  obtain ⟨pf, pc, p1, p2, p3, p4, p5, p6⟩ := H
  refine ⟨pf, pc, p1, p2, p3, p4, (gN_c e3).trans p5, fun k hk => ?_⟩
  have cn : gN A (166 + 51 * k) ≤ 5 := gN_le (m := 5) hA (by omega) (by have := bd_step (k := k) (j := 0) (by omega) (by omega); rw [Nat.add_zero] at this; rw [this]; decide)
  exact SR_ext cn (fun _ _ => rfl) (fun j hj => es _ (by omega) (by omega)) (p6 k hk)
theorem PA_A {p x c : Nat} (m : Nat) {A A' : Nat → Int32} {h : Nat → Nat → Int32} (H : PA p A x c h) (ec : A' c = A c) (hn : gN A c ≤ m) (e : same A A' x (x + 2 * m)) : PA p A' x c h := by
  refine ⟨by rw [ec]; exact H.1, fun i hi => ?_⟩
  have : gN A' c = gN A c := gN_c ec
  rw [e (x + 2 * i) (by omega) (by omega), e (x + 2 * i + 1) (by omega) (by omega)]
  exact H.2 i (by omega)
theorem UI_A {A A' : Nat → Int32} (hA : rOK A) (U : UI A) (e0 : A' 0 = A 0) (e3 : A' 3 = A 3) (e1 : same A A' 13 38) (es : same A A' 166 1696) : UI A' := by
  have h3 := gN_le (m := 30) hA (i := 3) (by omega) (by decide)
  have h0 := gN_le (m := 5) hA (i := 0) (by omega) (by decide)
  have g0 : gN A' 0 = gN A 0 := gN_c e0
  have g3 : gN A' 3 = gN A 3 := gN_c e3
  have cn : ∀ k, k < 30 → gN A (166 + 51 * k) ≤ 5 := fun k hk => gN_le (m := 5) hA (by omega) (by have := bd_step (k := k) (j := 0) (by omega) (by omega); rw [Nat.add_zero] at this; rw [this]; decide)
  have gs : ∀ k, k < 30 → gN A' (166 + 51 * k) = gN A (166 + 51 * k) := fun k hk => gN_c (es _ (by omega) (by omega))
  refine ⟨fun b c1 c2 c3 => ?_, fun k b c1 c2 c3 => ?_, fun k hk => ?_⟩
  rotate_right 1
  · rw [g3] at hk; rw [gs k (by omega), g0]; exact U.2.2 k hk
  · rw [g3] at c1 c2
    rw [gs _ (by omega)] at c2
    rw [g0] at c3
    rw [e1 (13 + 5 * b) (by omega) (by omega), e1 (14 + 5 * b) (by omega) (by omega), e1 (15 + 5 * b) (by omega) (by omega), e1 (16 + 5 * b) (by omega) (by omega), e1 (17 + 5 * b) (by omega) (by omega)]
    exact U.1 b c1 c2 c3
  · rw [g3] at c1
    rw [gs _ (by omega)] at c2 c3
    have c5 := cn (k + 1) (by omega)
    rw [es (166 + 51 * (k + 1) + 6 + 3 * b) (by omega) (by omega), es (166 + 51 * (k + 1) + 7 + 3 * b) (by omega) (by omega), es (166 + 51 * (k + 1) + 8 + 3 * b) (by omega) (by omega), e1 (16 + 5 * b) (by omega) (by omega), e1 (17 + 5 * b) (by omega) (by omega)]
    exact U.2.1 k b c1 c2 c3
/-- a holding, piece by piece: as it was, or shown anew -/
theorem HR_gen {S : List Nat} {o : Nat} {A A' : Nat → Int32} {h h' : Nat → Nat → Int32} (hA : rOK A) (H : HR o A h) (c : CF S h h')
    (d1 : (av S [o + 1, o + 2] = true ∧ same A A' 38 98) ∨ cellR o A' h')
    (d2 : (av S [o + 3, o + 4, o + 5, o + 6] = true ∧ A' 0 = A 0 ∧ same A A' 8 12 ∧ same A A' 13 38) ∨ MR (o + 3) A' h')
    (d3 : (av S [o + 3, o + 7] = true ∧ A' 12 = A 12 ∧ same A A' 1696 1726) ∨ BK true (o + 3) A' h')
    (d4 : (av S [o, o + 8] = true ∧ A' 3 = A 3 ∧ same A A' 166 1696) ∨ PR o A' h')
    (d5 : (av S [o + 9, o + 10, o + 11] = true ∧ A' 4 = A 4 ∧ same A A' 98 110) ∨ PA (o + 9) A' 98 4 h')
    (d6 : (av S [o + 12, o + 13, o + 14] = true ∧ A' 5 = A 5 ∧ same A A' 110 122) ∨ PA (o + 12) A' 110 5 h')
    (d7 : (av S [o + 15, o + 16, o + 17] = true ∧ A' 6 = A 6 ∧ same A A' 122 138) ∨ PA (o + 15) A' 122 6 h')
    (d8 : (av S [o + 18, o + 19, o + 20] = true ∧ A' 7 = A 7 ∧ same A A' 150 166) ∨ PA (o + 18) A' 150 7 h')
    (d9 : (av S [o + 21] = true ∧ same A A' 138 150) ∨ gainR o A' h')
    (d10 : h' o 11 = A' 2) (d11 : h' o 12 = A' 1) : HR o A' h' := by
  obtain ⟨a1, a2, a3, a4, ⟨p1, p2, p3, p4⟩, a6, a7, a8⟩ := H
  have h0 := gN_le (m := 5) hA (i := 0) (by omega) (by decide)
  refine ⟨?_, ?_, ?_, ?_, ⟨?_, ?_, ?_, ?_⟩, ?_, d10, d11⟩
  · rcases d1 with ⟨s, e⟩ | d
    · intro x hx
      rw [c _ (av_of s (by simp : o + 1 ∈ _)), c _ (av_of s (by simp : o + 2 ∈ _)), e _ (by omega) (by omega), e _ (by omega) (by omega)]
      exact a1 x hx
    · exact d
  · rcases d2 with ⟨s, e0, e1, e2⟩ | d
    · exact MR_cf (MR_A h0 a2 e0 e1 e2) (c _ (av_of s (by simp))) (c _ (av_of s (by simp))) (c _ (av_of s (by simp))) (c _ (av_of s (by simp)))
    · exact d
  · rcases d3 with ⟨s, e, e1⟩ | d
    · obtain ⟨bf, bc, b1, b2, b3, b4, b5⟩ := a3
      have q3 := c (o + 3) (av_of s (by simp))
      refine ⟨bf, bc, b1, b2, by rw [q3]; exact b3, by rw [q3]; exact b4, fun hw => ⟨(gN_c e).trans (b5 hw).1, fun i hi => ?_⟩⟩
      rw [c (o + 3 + 4) (av_of s (by simp)), e1 _ (by omega) (by omega)]
      exact (b5 hw).2 i hi
    · exact d
  · rcases d4 with ⟨s, e, e1⟩ | d
    · have := PR_A hA a4 e e1
      unfold PR at this ⊢
      rw [c o (av_of s (by simp)), c (o + 8) (av_of s (by simp))]
      exact this
    · exact d
  · rcases d5 with ⟨s, e, e1⟩ | d
    · have := PA_A 6 p1 e (gN_le (m := 6) hA (by omega) (by decide)) e1
      unfold PA at this ⊢
      rw [c (o + 9) (av_of s (by simp)), c (o + 9 + 1) (av_of s (by simp)), c (o + 9 + 2) (av_of s (by simp))]
      exact this
    · exact d
  · rcases d6 with ⟨s, e, e1⟩ | d
    · have := PA_A 6 p2 e (gN_le (m := 6) hA (by omega) (by decide)) e1
      unfold PA at this ⊢
      rw [c (o + 12) (av_of s (by simp)), c (o + 12 + 1) (av_of s (by simp)), c (o + 12 + 2) (av_of s (by simp))]
      exact this
    · exact d
  · rcases d7 with ⟨s, e, e1⟩ | d
    · have := PA_A 8 p3 e (gN_le (m := 8) hA (by omega) (by decide)) e1
      unfold PA at this ⊢
      rw [c (o + 15) (av_of s (by simp)), c (o + 15 + 1) (av_of s (by simp)), c (o + 15 + 2) (av_of s (by simp))]
      exact this
    · exact d
  · rcases d8 with ⟨s, e, e1⟩ | d
    · have := PA_A 8 p4 e (gN_le (m := 8) hA (by omega) (by decide)) e1
      unfold PA at this ⊢
      rw [c (o + 18) (av_of s (by simp)), c (o + 18 + 1) (av_of s (by simp)), c (o + 18 + 2) (av_of s (by simp))]
      exact this
    · exact d
  · rcases d9 with ⟨s, e⟩ | d
    · intro m hm
      rw [c _ (av_of s (by simp)), e _ (by omega) (by omega)]
      exact a6 m hm
    · exact d
theorem CI_gen {S : List Nat} {A A' B : Nat → Int32} {TX : Nat → Txt} {R R' t : Nat} {lt lt' : Option Nat} {h h' : Nat → Nat → Int32} (H : CI A B TX R t lt h) (c : CF S h h') (hS2 : av S (r22 40) = true) (hS3 : lo98 S = true) (ok : okA A') (e1 : A' 1 = A 1) (hr : HR 11 A' h') (l : LI A' TX R' lt' h') : CI A' B TX R' t lt' h' := by
  obtain ⟨a, b, n, h1, h2, h3, h4⟩ := H
  have g1 : gN A' 1 = gN A 1 := gN_c e1
  exact ⟨ok, b, by omega, hr, HR_av h2 hS2 c, fun x hx => txC_fr (fun p hp => c p (lo98_of hS3 hp)) (by omega) (h3 x (by omega)), l⟩
theorem RI_up {A B : Nat → Int32} {TX : Nat → Txt} {h h' : Nat → Nat → Int32} {A' : Nat → Int32} (H : RI A B TX h) (e82 : h' 82 = A') (e83 : h' 83 = h 83) (e84 : h' 84 = h 84) (e81 : h' 81 25 = h 81 25) (e1 : A' 1 = A 1) : RI A' B TX h' := by
  obtain ⟨a, b, w, x⟩ := H
  have g1 : gN A' 1 = gN A 1 := gN_c e1
  exact ⟨e82, e83.trans b, e81.trans w, by rw [e84, g1]; exact x⟩
theorem okA_up {A : Nat → Int32} {i : Nat} {v : Int32} (H : okA A) (hi : i ≠ 0 ∧ i ≠ 1 ∧ i ≠ 2 ∧ i ≠ 3) (h1 : i < 13 ∨ 38 ≤ i) (h2 : i < 166 ∨ 1696 ≤ i) (hv : inB i v) : okA (va_up A i v) := by
  obtain ⟨a, b, c⟩ := H
  refine ⟨rOK_up a hv, UI_A a b (va_up_ne _ _ (by omega)) (va_up_ne _ _ (by omega)) (same_up (by omega)) (same_up (by omega)), ?_⟩
  rw [va_up_ne _ _ (by omega), va_up_ne _ _ (by omega)]
  exact c
/-- behind a forget no light is known any more -/
theorem LI_forget {A A' : Nat → Int32} {TX TX' : Nat → Txt} {R : Nat} {lt : Option Nat} {h h' : Nat → Nat → Int32} (H : LI A TX R lt h) (hR : R + 1 < 67108864) (e8 : h' 8 = va_up (h 8) 9 (h 8 9 + nI 1)) (e39 : h' 39 = h 39) (hp : rPth (frA A') (h' 9) (h' 10)) : LI A' TX' (R + 1) lt h' := by
  obtain ⟨f0, ⟨mo, ho, sz, ⟨x1, x2, x3, x4, x5, x6, x7, x8, x9, x10⟩, hf, h7⟩, _, _⟩ := H
  have y : LWy A' h' mo (R + 1) ho sz := by
    refine ⟨?_, x2, ?_, ?_, ?_, by omega, hR, x8, x9, hp⟩
    · rw [e8]; exact x1
    · rw [e8]; exact x3
    · rw [e8]; exact x4
    · rw [e8, va_up_self, x5]; exact nI_1 R
  have w : ∀ f, LWf f A' h' (R + 1) ho sz := fun f k hk => by
    obtain ⟨v, a1, a2, a3⟩ := hf k hk
    exact ⟨v, by rw [e39]; exact a1, by omega, fun q => by omega⟩
  cases lt with
  | none => exact ⟨none, ⟨mo, ho, sz, y, w _, h7⟩, fun _ => rfl, fun x _ q => absurd q (by simp)⟩
  | some o =>
    refine ⟨(TX' ((o - 98) / 7)).1 0, ⟨mo, ho, sz, y, w _, h7⟩, fun q => absurd q (by simp), fun x hx q => ?_⟩
    simp at q
    rw [q, show (98 + 7 * x - 98) / 7 = x by omega]
theorem CI_rP {A B : Nat → Int32} {TX : Nat → Txt} {R t : Nat} {lt : Option Nat} {h : Nat → Nat → Int32} (H : CI A B TX R t lt h) : rPth (frA A) (h 9) (h 10) := by
  obtain ⟨f0, ⟨mo, ho, sz, y, _⟩, _⟩ := H.2.2.2.2.2.2
  exact y.2.2.2.2.2.2.2.2.2
section DE
variable {L t : Nat} {lt rt rp : Option Nat} {sw : Bool} {h : Nat → Nat → Int32} {gl : Nat → Nat → Int64} {A B : Nat → Int32} {TX : Nat → Txt} {R : Nat}
end DE
