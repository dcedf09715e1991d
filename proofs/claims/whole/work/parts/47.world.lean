/-! THE WORLD: what the class holds of cells A (now) and B (the image), what the reference holds -/
theorem frF_ext {op op' : Nat → Bool} (e : ∀ j, j < 30 → op j = op' j) (x : Int32) {c : Nat} (hc : c < 30) : frF op x c = frF op' x c := by
  have g : ∀ i j, j < 30 → grow op (sgl x) i j = grow op' (sgl x) i j := by
    intro i
    induction i with
    | zero => intro j hj; show (_ && op j) = (_ && op' j); rw [e j hj]
    | succ i ih =>
      intro j hj
      show ((grow _ _ i j || nb (grow _ _ i) j) && op j) = ((grow _ _ i j || nb (grow _ _ i) j) && op' j)
      rw [ih j hj, nb_ext ih j hj, e j hj]
  have k : ∀ n, fk (grow op (sgl x)) n c = fk (grow op' (sgl x)) n c := by
    intro n
    induction n with
    | zero => rfl
    | succ n ih => rw [fk, fk, ih, g n c hc]
  exact k 30
abbrev sameC (A A' : Nat → Int32) : Prop := ∀ i, 38 ≤ i → i < 98 → A' i = A i
theorem frA_same {A A' : Nat → Int32} (e : sameC A A') : ∀ j, j < 30 → frA A j = frA A' j := fun j hj => by
  unfold frA
  rw [e _ (by omega) (by omega)]
theorem shV_same {A A' : Nat → Int32} (e : sameC A A') (f0 : Option (E1 → Int)) (ho sz s : Nat) {c : Nat} (hc : c < 30) : shV f0 A ho sz s c = shV f0 A' ho sz s c := by
  have : shE A ho sz s c = shE A' ho sz s c := by
    unfold shE
    rw [e (38 + c) (by omega) (by omega), e (68 + c) (by omega) (by omega)]
  unfold shV shZ
  rw [this]
theorem ltV_same {A A' : Nat → Int32} (e : sameC A A') (f0 : Option (E1 → Int)) (ho sz : Nat) (mo : Int32) {c : Nat} (hc : c < 30) : ltV f0 A ho sz mo c = ltV f0 A' ho sz mo c := by
  unfold ltV
  rw [frF_ext (frA_same e) mo hc, shV_same e f0 ho sz _ hc]
theorem LWy_same {A A' : Nat → Int32} (e : sameC A A') {h : Nat → Nat → Int32} {mo : Int32} {R ho sz : Nat} (H : LWy A h mo R ho sz) : LWy A' h mo R ho sz := by
  obtain ⟨x1, x2, x3, x4, x5, x6, x7, x8, x9, x10⟩ := H
  exact ⟨x1, x2, x3, x4, x5, x6, x7, x8, x9, rPth_ext (frA_same e) x10⟩
theorem LWf_same {A A' : Nat → Int32} (e : sameC A A') {f0 : Option (E1 → Int)} {h : Nat → Nat → Int32} {R ho sz : Nat} (H : LWf f0 A h R ho sz) : LWf f0 A' h R ho sz := by
  intro k hk
  obtain ⟨v, a1, a2, a3⟩ := H k hk
  refine ⟨v, a1, a2, fun q => ?_⟩
  rw [← shV_same e f0 ho sz _ (by omega)]
  exact a3 q
theorem LawS_same {A A' : Nat → Int32} (e : sameC A A') {f0 : Option (E1 → Int)} {h : Nat → Nat → Int32} {lt : Option Nat} {R : Nat} (H : LawS A h lt R f0) : LawS A' h lt R f0 := by
  obtain ⟨mo, ho, sz, h1, h2, h3⟩ := H
  exact ⟨mo, ho, sz, LWy_same e h1, LWf_same e h2, h3⟩
theorem LawS_cf {A : Nat → Int32} {f0 : Option (E1 → Int)} {h h' : Nat → Nat → Int32} {lt : Option Nat} {R : Nat} (H : LawS A h lt R f0) (e8 : h' 8 = h 8) (e9 : h' 9 = h 9) (e10 : h' 10 = h 10) (e39 : h' 39 = h 39) : LawS A h' lt R f0 := by
  obtain ⟨mo, ho, sz, h1, h2, h3⟩ := H
  refine ⟨mo, ho, sz, ?_, ?_, h3⟩
  · unfold LWy at h1 ⊢
    rw [e8, e9, e10]
    exact h1
  · unfold LWf at h2 ⊢
    rw [e39]
    exact h2
def PA (p : Nat) (A : Nat → Int32) (x c : Nat) (h : Nat → Nat → Int32) : Prop := h p 2 = A c ∧ ∀ i, i < gN A c → h (p + 1) i = A (x + 2 * i) ∧ h (p + 2) i = A (x + 2 * i + 1)
def cellR (o : Nat) (A : Nat → Int32) (h : Nat → Nat → Int32) : Prop := ∀ c, c < 30 → h (o + 1) c = A (38 + c) ∧ h (o + 2) c = A (68 + c)
def gainR (o : Nat) (A : Nat → Int32) (h : Nat → Nat → Int32) : Prop := ∀ m, m < 12 → h (o + 21) m = A (138 + m)
/-- a holding -/
def HR (o : Nat) (A : Nat → Int32) (h : Nat → Nat → Int32) : Prop := cellR o A h ∧ MR (o + 3) A h ∧ BK true (o + 3) A h ∧ PR o A h ∧ (PA (o + 9) A 98 4 h ∧ PA (o + 12) A 110 5 h ∧ PA (o + 15) A 122 6 h ∧ PA (o + 18) A 150 7 h) ∧ gainR o A h ∧ h o 11 = A 2 ∧ h o 12 = A 1
theorem HR_cf {o : Nat} {A : Nat → Int32} {h h' : Nat → Nat → Int32} (H : HR o A h) (e : ∀ p, o ≤ p → p < o + 22 → h' p = h p) : HR o A h' := by
  obtain ⟨a1, a2, a3, a4, ⟨p1, p2, p3, p4⟩, a6, a7, a8⟩ := H
  have pa : ∀ p x c, o ≤ p → p + 2 < o + 22 → PA p A x c h → PA p A x c h' := fun p x c h1 h2 H => by
    unfold PA at H ⊢
    rw [e p h1 (by omega), e (p + 1) (by omega) (by omega), e (p + 2) (by omega) (by omega)]
    exact H
  refine ⟨?_, ?_, ?_, ?_, ⟨pa _ _ _ (by omega) (by omega) p1, pa _ _ _ (by omega) (by omega) p2, pa _ _ _ (by omega) (by omega) p3, pa _ _ _ (by omega) (by omega) p4⟩, ?_, ?_, ?_⟩
  · unfold cellR at a1 ⊢
    rw [e _ (by omega) (by omega), e _ (by omega) (by omega)]
    exact a1
  · exact MR_cf a2 (e _ (by omega) (by omega)) (e _ (by omega) (by omega)) (e _ (by omega) (by omega)) (e _ (by omega) (by omega))
  · exact BK_stay a3 (by rw [e _ (by omega) (by omega)]) (by rw [e _ (by omega) (by omega)]) (e _ (by omega) (by omega)) rfl (fun _ _ => rfl)
  · unfold PR at a4 ⊢
    rw [e _ (by omega) (by omega), e (o + 8) (by omega) (by omega)]
    exact a4
  · unfold gainR at a6 ⊢
    rw [e _ (by omega) (by omega)]
    exact a6
  · rw [e _ (by omega) (by omega)]; exact a7
  · rw [e _ (by omega) (by omega)]; exact a8
/-! texts -/
abbrev Cls : Type := Nat × (Nat → Nat × Int32 × Int32)
abbrev Txt : Type := (Nat → Option (E1 → Int)) × Cls
def wdOf (s : Nat) : Nat := match s with
  | 0 => 11
  | 1 => 12
  | 2 => 13
  | 3 => 14
  | 4 => 5
  | 5 => 15
  | 6 => 16
  | 7 => 17
  | 8 => 18
  | _ => 0
abbrev has1 (s : Nat) : Prop := s = 3 ∨ s = 4 ∨ s = 5 ∨ s = 6 ∨ s = 8 ∨ s = 9
abbrev has2 (s : Nat) : Prop := s = 3 ∨ s = 4 ∨ s = 5 ∨ s = 8
def clsOK (c : Cls) : Prop := c.1 ≤ 24 ∧ ∀ i, i < c.1 → (c.2 i).1 < 10 ∧ ((c.2 i).1 = 9 → ∃ q, q ≤ 60 ∧ (c.2 i).2.1 = nI q)
def clsC (c : Cls) (h : Nat → Nat → Int32) (o : Nat) : Prop := h o 3 = nI c.1 ∧ ∀ i, i < c.1 → h (o + 1) i = nI (wdOf (c.2 i).1) ∧ (has1 (c.2 i).1 → h (o + 2) i = (c.2 i).2.1) ∧ (has2 (c.2 i).1 → h (o + 3) i = (c.2 i).2.2)
def clsR (c : Cls) (T : Nat → Int32) (x : Nat) : Prop := T (681 * x) = nI c.1 ∧ ∀ i, i < c.1 → T (681 * x + 1 + 3 * i) = nI (c.2 i).1 ∧ (has1 (c.2 i).1 → T (681 * x + 1 + 3 * i + 1) = (c.2 i).2.1) ∧ (has2 (c.2 i).1 → T (681 * x + 1 + 3 * i + 2) = (c.2 i).2.2)
def txC (x : Txt) (h : Nat → Nat → Int32) (o : Nat) : Prop := clsOK x.2 ∧ clsC x.2 h o ∧ ∀ s, s < 3 → lawC h o s (x.1 s)
def txF (x : Txt) (T : Nat → Int32) (i : Nat) : Prop := clsR x.2 T i ∧ ∀ s, s < 3 → lawR T i s (x.1 s)
theorem txC_fr {x : Txt} {h h' : Nat → Nat → Int32} {o : Nat} (e : ∀ p, 98 ≤ p → h' p = h p) (ho : 98 ≤ o) (H : txC x h o) : txC x h' o := by
  obtain ⟨h1, h2, h3⟩ := H
  refine ⟨h1, ?_, fun s hs => lawC_fr e ho (h3 s hs)⟩
  unfold clsC at h2 ⊢
  rw [e o ho, e (o + 1) (by omega), e (o + 2) (by omega), e (o + 3) (by omega)]
  exact h2
/-- the state's own bounds -/
def okA (A : Nat → Int32) : Prop := rOK A ∧ UI A ∧ (A 2).toInt < (A 1).toInt
def LI (A : Nat → Int32) (TX : Nat → Txt) (R : Nat) (lt : Option Nat) (h : Nat → Nat → Int32) : Prop := ∃ f0, LawS A h lt R f0 ∧ (lt = none → f0 = none) ∧ ∀ x, x < gN A 1 → lt = some (98 + 7 * x) → f0 = (TX x).1 0
/-- what the class holds -/
def CI (A B : Nat → Int32) (TX : Nat → Txt) (R t : Nat) (lt : Option Nat) (h : Nat → Nat → Int32) : Prop := okA A ∧ okA B ∧ (gN B 1 ≤ gN A 1 ∧ gN A 1 ≤ t ∧ t ≤ 4) ∧ HR 11 A h ∧ HR 40 B h ∧ (∀ x, x < gN A 1 → txC (TX x) h (98 + 7 * x)) ∧ LI A TX R lt h
/-- what the reference holds -/
def RI (A B : Nat → Int32) (TX : Nat → Txt) (h : Nat → Nat → Int32) : Prop := h 82 = A ∧ h 83 = B ∧ h 81 25 = nI 1 ∧ ∀ x, x < gN A 1 → txF (TX x) (h 84) x
def av (S T : List Nat) : Bool := T.all (fun p => !S.contains p)
theorem av_of {S T : List Nat} (h : av S T = true) {p : Nat} (hp : p ∈ T) : S.contains p = false := by
  have := List.all_eq_true.mp h p hp
  simpa using this
def lo98 (S : List Nat) : Bool := S.all (fun p => decide (p < 98))
theorem lo98_of {S : List Nat} (h : lo98 S = true) {p : Nat} (hp : 98 ≤ p) : S.contains p = false := by
  cases c : S.contains p
  · rfl
  · have := List.all_eq_true.mp h p (List.contains_iff_mem.mp c)
    simp at this
    omega
def r22 (o : Nat) : List Nat := [o, o + 1, o + 2, o + 3, o + 4, o + 5, o + 6, o + 7, o + 8, o + 9, o + 10, o + 11, o + 12, o + 13, o + 14, o + 15, o + 16, o + 17, o + 18, o + 19, o + 20, o + 21]
theorem r22_mem {o p : Nat} (h1 : o ≤ p) (h2 : p < o + 22) : p ∈ r22 o := by
  obtain ⟨k, rfl⟩ := Nat.exists_eq_add_of_le h1
  have hk : k < 22 := by omega
  match k, hk with
  | 0, _ => simp [r22]
  | 1, _ => simp [r22]
  | 2, _ => simp [r22]
  | 3, _ => simp [r22]
  | 4, _ => simp [r22]
  | 5, _ => simp [r22]
  | 6, _ => simp [r22]
  | 7, _ => simp [r22]
  | 8, _ => simp [r22]
  | 9, _ => simp [r22]
  | 10, _ => simp [r22]
  | 11, _ => simp [r22]
  | 12, _ => simp [r22]
  | 13, _ => simp [r22]
  | 14, _ => simp [r22]
  | 15, _ => simp [r22]
  | 16, _ => simp [r22]
  | 17, _ => simp [r22]
  | 18, _ => simp [r22]
  | 19, _ => simp [r22]
  | 20, _ => simp [r22]
  | 21, _ => simp [r22]
  | n + 22, h => exact absurd h (by omega)
theorem HR_av {S : List Nat} {o : Nat} {A : Nat → Int32} {h h' : Nat → Nat → Int32} (H : HR o A h) (hS : av S (r22 o) = true) (c : CF S h h') : HR o A h' := HR_cf H (fun p h1 h2 => c p (av_of hS (r22_mem h1 h2)))
theorem LI_cf {S : List Nat} {A : Nat → Int32} {TX : Nat → Txt} {R : Nat} {lt : Option Nat} {h h' : Nat → Nat → Int32} (H : LI A TX R lt h) (hS : av S [8, 9, 10, 39] = true) (c : CF S h h') : LI A TX R lt h' := by
  obtain ⟨f0, h1, h2⟩ := H
  exact ⟨f0, LawS_cf h1 (c _ (av_of hS (by simp))) (c _ (av_of hS (by simp))) (c _ (av_of hS (by simp))) (c _ (av_of hS (by simp))), h2⟩
theorem LI_same {A A' : Nat → Int32} (e : sameC A A') (e1 : A' 1 = A 1) {TX : Nat → Txt} {R : Nat} {lt : Option Nat} {h : Nat → Nat → Int32} (H : LI A TX R lt h) : LI A' TX R lt h := by
  obtain ⟨f0, h1, h2, h3⟩ := H
  refine ⟨f0, LawS_same e h1, h2, fun x hx => h3 x ?_⟩
  have : gN A' 1 = gN A 1 := gN_c e1
  omega
/-- only what the laws remember has changed -/
theorem CI_law {S : List Nat} {A B : Nat → Int32} {TX : Nat → Txt} {R R' t : Nat} {lt lt' : Option Nat} {h h' : Nat → Nat → Int32} (H : CI A B TX R t lt h) (hS1 : av S (r22 11) = true) (hS2 : av S (r22 40) = true) (hS3 : lo98 S = true) (c : CF S h h') (l : LI A TX R' lt' h') : CI A B TX R' t lt' h' := by
  obtain ⟨a, b, n, h1, h2, h3, h4⟩ := H
  exact ⟨a, b, n, HR_av h1 hS1 c, HR_av h2 hS2 c, fun x hx => txC_fr (fun p hp => c p (lo98_of hS3 hp)) (by omega) (h3 x hx), l⟩
theorem CI_cf {S : List Nat} {A B : Nat → Int32} {TX : Nat → Txt} {R t : Nat} {lt : Option Nat} {h h' : Nat → Nat → Int32} (H : CI A B TX R t lt h) (hS1 : av S (r22 11) = true) (hS2 : av S (r22 40) = true) (hS3 : lo98 S = true) (hS4 : av S [8, 9, 10, 39] = true) (c : CF S h h') : CI A B TX R t lt h' := CI_law H hS1 hS2 hS3 c (LI_cf H.2.2.2.2.2.2 hS4 c)
theorem RI_cf {S : List Nat} {A B : Nat → Int32} {TX : Nat → Txt} {h h' : Nat → Nat → Int32} (H : RI A B TX h) (hS : av S [81, 82, 83, 84] = true) (c : CF S h h') : RI A B TX h' := by
  obtain ⟨a, b, w, x⟩ := H
  refine ⟨(c 82 (av_of hS (by simp))).trans a, (c 83 (av_of hS (by simp))).trans b, by rw [c 81 (av_of hS (by simp))]; exact w, by rw [c 84 (av_of hS (by simp))]; exact x⟩
/-- the ruling text -/
def rlO (A : Nat → Int32) : Option Nat := if A 2 = -1 then none else some (98 + 7 * gN A 2)
def flA (TX : Nat → Txt) (A : Nat → Int32) : Nat → Option (E1 → Int) := if A 2 = -1 then fun _ => none else (TX (gN A 2)).1
theorem A2_cases {A : Nat → Int32} (H : okA A) : A 2 = -1 ∨ ∃ r, r < gN A 1 ∧ A 2 = nI r ∧ gN A 2 = r := by
  obtain ⟨h1, _, h3⟩ := H
  have b2 : -1 ≤ (A 2).toInt ∧ (A 2).toInt ≤ 3 := h1 2 (by omega)
  have b1 : 0 ≤ (A 1).toInt ∧ (A 1).toInt ≤ 4 := h1 1 (by omega)
  by_cases c : (A 2).toInt = -1
  · exact Or.inl (Int32.toInt_inj.mp (by rw [c]; decide))
  · refine Or.inr ⟨(A 2).toInt.toNat, by unfold gN; omega, int_nI (by omega), rfl⟩
theorem CI_ltR {A B : Nat → Int32} {TX : Nat → Txt} {R t : Nat} {lt : Option Nat} {h : Nat → Nat → Int32} (H : CI A B TX R t lt h) : ltR h t (rlO A) (flA TX A) := by
  unfold rlO flA
  rcases A2_cases H.1 with q | ⟨r, hr, e, eg⟩
  · rw [if_pos q, if_pos q]
    exact fun _ _ => rfl
  · have q : ¬ A 2 = -1 := by rw [e]; exact nI_ne_m1 (by have := H.2.2.1; omega)
    rw [if_neg q, if_neg q, eg]
    exact ⟨r, by have := H.2.2.1; omega, rfl, (H.2.2.2.2.2.1 r hr).2.2⟩
theorem RI_txR {A B : Nat → Int32} {TX : Nat → Txt} {h : Nat → Nat → Int32} (H : RI A B TX h) (hA : okA A) (s : Nat) (hs : s < 3) : txR (h 84) (h 82 2) s (flA TX A s) := by
  rw [H.1]
  unfold flA
  rcases A2_cases hA with q | ⟨r, hr, e, eg⟩
  · rw [if_pos q]
    exact Or.inl ⟨q, rfl⟩
  · have h4 := gN_le (m := 4) hA.1 (i := 1) (by omega) (by decide)
    have q : ¬ A 2 = -1 := by rw [e]; exact nI_ne_m1 (by omega)
    rw [if_neg q, eg]
    exact Or.inr ⟨r, by omega, e, (H.2.2.2 r hr).2 s hs⟩
theorem CI_fm {A B : Nat → Int32} {TX : Nat → Txt} {R t : Nat} {lt : Option Nat} {h : Nat → Nat → Int32} (H : CI A B TX R t lt h) : fmR A h := ⟨rOK_clOK H.1.1, H.2.2.2.1.1⟩
theorem LW_LI {A B : Nat → Int32} {TX : Nat → Txt} {R R' t ho sz : Nat} {lt : Option Nat} {mo : Int32} {h h' : Nat → Nat → Int32} (H : CI A B TX R t lt h) (W : LW (flA TX A) A h' t (rlO A) mo R' ho sz) : LI A TX R' (rlO A) h' := by
  refine ⟨flA TX A 0, LW_LS W, fun q => ?_, fun x hx q => ?_⟩
  · unfold rlO at q
    unfold flA
    split at q
    · rename_i c; rw [if_pos c]
    · exact absurd q (by simp)
  · unfold rlO at q
    unfold flA
    split at q
    · exact absurd q (by simp)
    · rename_i c
      rw [if_neg c]
      simp at q
      have : gN A 2 = x := by omega
      rw [this]
section WO
variable {L t : Nat} {lt rt rp : Option Nat} {sw : Bool} {h : Nat → Nat → Int32} {gl : Nat → Nat → Int64} {A B : Nat → Int32} {TX : Nat → Txt} {R : Nat}
theorem e_ruling (H : CI A B TX R t lt h) : avE 1 97 [.ref 7] (sX L t lt rt rp sw h gl) (some (mvRv (rlO A)), sX L t lt rt rp sw h gl) := by
  have h11 : h 11 11 = A 2 := H.2.2.2.1.2.2.2.2.2.2.1
  have h12 : h 11 12 = A 1 := H.2.2.2.1.2.2.2.2.2.2.2
  have e1 : h 11 12 = nI (gN A 1) := h12.trans (gN_eq H.1.1 (by omega) (by decide))
  obtain ⟨n1, n2, n3⟩ := H.2.2.1
  unfold rlO
  rcases A2_cases H.1 with q | ⟨r, hr, e, eg⟩
  · rw [if_pos q]
    show avA _ 97 0 [.ref 7] [] _ _
    refine a_aload_0 rfl rfl ?_
    refine a_aload_0 rfl rfl ?_
    refine a_getr rfl rfl rfl (fun _ _ _ => rfl) rfl ?_
    refine a_geti rfl rfl rfl (fun _ _ _ => rfl) ?_
    refine a_as (y := -1) (h11.trans q) ?_
    refine a_virtI rfl rfl (e_isText (gN A 1) n2 n3 e1 (-1)) (Nat.le_of_ble_eq_true rfl) ⟨rfl, rfl, rfl, rfl⟩ rfl rfl rfl (Nat.le_of_ble_eq_true rfl) rfl rfl ?_
    refine a_ifb_eq rfl rfl rfl (fun _ => ?_) (fun c_11 => by first | exact absurd (fun q => absurd q.1 (by decide)) c_11 | exact absurd c_11 (fun q => absurd q.1 (by decide)))
    refine a_null rfl rfl ?_
    exact a_aretN rfl rfl
  · have q : ¬ A 2 = -1 := by rw [e]; exact nI_ne_m1 (by omega)
    rw [if_neg q, eg]
    have er : lyR lt rt rp sw t 67 r = some (98 + 7 * r) := by
      show (bif Nat.blt r t then some (98 + 7 * r) else none) = some (98 + 7 * r)
      rw [bltT (by omega)]
      rfl
    show avA _ 97 0 [.ref 7] [] _ _
    refine a_aload_0 rfl rfl ?_
    refine a_aload_0 rfl rfl ?_
    refine a_getr rfl rfl rfl (fun _ _ _ => rfl) rfl ?_
    refine a_geti rfl rfl rfl (fun _ _ _ => rfl) ?_
    refine a_as (y := nI r) (h11.trans e) ?_
    refine a_virtI rfl rfl (e_isText (gN A 1) n2 n3 e1 (nI r)) (Nat.le_of_ble_eq_true rfl) ⟨rfl, rfl, rfl, rfl⟩ rfl rfl rfl (Nat.le_of_ble_eq_true rfl) rfl rfl ?_
    refine a_ifb_eq rfl rfl rfl (fun c_11 => by first | exact absurd c_11 (not_not_intro (by rw [nI_toInt (by omega)]; omega)) | exact absurd (not_not_intro (by rw [nI_toInt (by omega)]; omega)) c_11) (fun _ => ?_)
    refine a_aload_0 rfl rfl ?_
    refine a_getr rfl rfl rfl (fun _ _ _ => rfl) rfl ?_
    refine a_aload_0 rfl rfl ?_
    refine a_getr rfl rfl rfl (fun _ _ _ => rfl) rfl ?_
    refine a_geti rfl rfl rfl (fun _ _ _ => rfl) ?_
    refine a_as (y := nI (r)) (h11.trans e) ?_
    refine a_aald rfl rfl rfl rfl (by omega) (by decide) ?_
    refine a_is er ?_
    refine a_goto rfl rfl ?_
    exact a_aretS rfl rfl
end WO
