/-! BOTH SIDES TOGETHER: what holds between two calls; the call text -/
theorem Run2_T {law : Nat} {T T' : Nat → Int32} {c0 : Nat} {E : E1} {e : Nat} (g : ∀ q, c0 ≤ q → q < c0 + 2 * e → T' q = T q) (n : Nat) : ∀ a b, Run2 law T c0 E e n a b → Run2 law T' c0 E e n a b := by
  induction n with
  | zero => intro a b H; exact H
  | succ n ih =>
    intro a b H
    obtain ⟨h1, c, ⟨o, v, s1, s2, s3, s4, s5⟩, h3⟩ := H
    exact ⟨h1, c, ⟨o, v, s1, s2, (g _ (by omega) (by omega)).trans s3, (g _ (by omega) (by omega)).trans s4, s5⟩, ih _ _ h3⟩
theorem lawR_T {T T' : Nat → Int32} {i s : Nat} {fo : Option (E1 → Int)} (g : ∀ q, 681 * i ≤ q → q < 681 * i + 681 → T' q = T q) (H : lawR T i s fo) : lawR T' i s fo := by
  obtain ⟨n, h1, h2, h3⟩ := H
  refine ⟨n, h1, (g _ (by omega) (by omega)).trans h2, ?_⟩
  cases fo with
  | none => intro k hk; rw [g _ (by omega) (by omega)]; exact h3 k hk
  | some f =>
    obtain ⟨hf, k, st, en, k1, k2, k3, k4, k5, k6, k7, k8⟩ := h3
    refine ⟨hf, k, st, en, k1, (g _ (by omega) (by omega)).trans k2, fun k' hk => ?_, (g _ (by omega) (by omega)).trans k4, (g _ (by omega) (by omega)).trans k5, k6, k7, fun E hE vs ts l1 l2 => ?_⟩
    · rw [g _ (by omega) (by omega)]; exact k3 k' hk
    · obtain ⟨m, R⟩ := k8 E hE vs ts l1 l2
      exact ⟨m, Run2_T (fun q q1 q2 => g q (by omega) (by omega)) m _ _ R⟩
theorem txF_T {T T' : Nat → Int32} {i : Nat} {x : Txt} (g : ∀ q, 681 * i ≤ q → q < 681 * i + 681 → T' q = T q) (hc : clsOK x.2) (H : txF x T i) : txF x T' i := by
  obtain ⟨⟨c1, c2⟩, h2⟩ := H
  have c24 := hc.1
  refine ⟨⟨(g _ (by omega) (by omega)).trans c1, fun k hk => ?_⟩, fun s hs => lawR_T g (h2 s hs)⟩
  rw [g _ (by omega) (by omega), g _ (by omega) (by omega), g _ (by omega) (by omega)]
  exact c2 k hk
theorem txC_loc {x : Txt} {h h' : Nat → Nat → Int32} {o : Nat} (e : ∀ p, o ≤ p → p < o + 7 → h' p = h p) (H : txC x h o) : txC x h' o := by
  obtain ⟨h1, h2, h3⟩ := H
  refine ⟨h1, ?_, fun s hs => ?_⟩
  · unfold clsC at h2 ⊢
    rw [e o (by omega) (by omega), e (o + 1) (by omega) (by omega), e (o + 2) (by omega) (by omega), e (o + 3) (by omega) (by omega)]
    exact h2
  · have q := h3 s hs
    cases hf : x.1 s with
    | none => rw [hf] at q; show h' (o + 5) s = -1; rw [e _ (by omega) (by omega)]; exact q
    | some f =>
      rw [hf] at q
      obtain ⟨hf, st, en, len, e1, e2, e3, l⟩ := q
      refine ⟨hf, st, en, len, ?_, ?_, ?_, ?_⟩
      · rw [e _ (by omega) (by omega)]; exact e1
      · rw [e _ (by omega) (by omega)]; exact e2
      · rw [e _ (by omega) (by omega)]; exact e3
      · rw [e _ (by omega) (by omega)]; exact l
/-- what holds between two calls -/
def GG (A B : Nat → Int32) (TX : Nat → Txt) (R t : Nat) (lt : Option Nat) (b : Nat → Nat) (k : Nat) (h : Nat → Nat → Int32) : Prop := CI A B TX R t lt h ∧ RI A B TX h ∧ KI h ∧ LZ h ∧ TP b k h ∧ RP b k h ∧ lw3 h ∧ h 72 3 = h 81 5 ∧ h 72 4 = h 81 6
theorem KI_e {h h' : Nat → Nat → Int32} (K : KI h) (e : ∀ p, p < 6 ∨ p = 71 → h' p = h p) : KI h' := by
  unfold KI at K ⊢
  rw [e 1 (by omega), e 2 (by omega), e 3 (by omega), e 4 (by omega), e 5 (by omega), e 71 (by omega)]
  exact K
theorem LZ_e {h h' : Nat → Nat → Int32} (K : LZ h) (e : h' 79 = h 79) : LZ h' := by
  unfold LZ at K ⊢
  rw [e]
  exact K
theorem TP_e {b : Nat → Nat} {k : Nat} {h h' : Nat → Nat → Int32} (K : TP b k h) (e : h' 68 1 = h 68 1) (e' : h' 69 = h 69) : TP b k h' := by
  unfold TP at K ⊢
  rw [e, e']
  exact K
theorem RP_e {b : Nat → Nat} {k : Nat} {h h' : Nat → Nat → Int32} (K : RP b k h) (e : h' 81 4 = h 81 4) (e' : h' 85 = h 85) : RP b k h' := by
  unfold RP at K ⊢
  rw [e, e']
  exact K
theorem lw3_e {h h' : Nat → Nat → Int32} (K : lw3 h) (e : h' 72 = h 72) : lw3 h' := by
  obtain ⟨l, l1, l2⟩ := K
  exact ⟨l, l1, (congrFun e 2).trans l2⟩
/-- one call on both sides: the same answer, and what holds holds again -/
def stG (n dC kC : Nat) (asC : List Value) (dR kR : Nat) (asR : List Value) : Prop := ∀ (L t : Nat) (lt rt rp : Option Nat) (sw : Bool) (h : Nat → Nat → Int32) (gl : Nat → Nat → Int64) (R : Nat) (A B : Nat → Int32) (TX : Nat → Txt) (b : Nat → Nat) (k : Nat), GG A B TX R t lt b k h → R + n < 67108864 → ∃ (v : Int32) (t' : Nat) (lt' rt' rp' : Option Nat) (sw' : Bool) (h1 : Nat → Nat → Int32) (gl1 : Nat → Nat → Int64) (h2 : Nat → Nat → Int32) (gl2 : Nat → Nat → Int64) (R' : Nat) (A' B' : Nat → Int32) (TX' : Nat → Txt) (b' : Nat → Nat) (k' : Nat), avE dC kC asC (sX L t lt rt rp sw h gl) (some (.int v), sX L t' lt' rt' rp' sw' h1 gl1) ∧ avE dR kR asR (sX L t' lt' rt' rp' sw' h1 gl1) (some (.int v), sX L t' lt' rt' rp' sw' h2 gl2) ∧ h1 0 = h 0 ∧ h2 0 = h 0 ∧ GG A' B' TX' R' t' lt' b' k' h2 ∧ R' ≤ R + n
theorem stG_of {n dC kC : Nat} {asC : List Value} {dR kR : Nat} {asR : List Value} (H : ∀ (A B : Nat → Int32) (TX : Nat → Txt), okA A → okA B → gN B 1 ≤ gN A 1 → (∀ x, x < gN A 1 → clsOK (TX x).2) → ∃ r A' B', opC n dC kC asC TX A B r A' B' ∧ opR dR kR asR TX A B r A' B') : stG n dC kC asC dR kR asR := by
  intro L t lt rt rp sw h gl R A B TX b k G hR
  obtain ⟨C, Q, K, Z, T, P, l3, f1, f2⟩ := G
  obtain ⟨r, A', B', oC, oR⟩ := H A B TX C.1 C.2.1 C.2.2.1.1 (fun x hx => (C.2.2.2.2.2.1 x hx).1)
  obtain ⟨h1, lt', R', sw', c1, F1, C1, _, r2⟩ := oC L t lt rt rp sw h gl R C hR
  have Q1 : RI A B TX h1 := RI_cf Q (S := clS) rfl F1
  obtain ⟨h2, gl2, c2, F2, j2, Q2⟩ := oR L t lt' rt rp sw' h1 gl C.1 Q1
  have e1 : ∀ p, clS.contains p = false → rfS.contains p = false → h2 p = h p := fun p a c => (F2 p c).trans (F1 p a)
  have e81 : ∀ j, j ≠ 26 → h2 81 j = h 81 j := fun j hj => (j2 j hj).trans (congrFun (F1 81 rfl) j)
  refine ⟨r, t, lt', rt, rp, sw', h1, gl, h2, gl2, R', A', B', TX, b, k, c1, c2, F1 0 rfl, e1 0 rfl rfl, ⟨CI_cf C1 (S := rfS) rfl rfl rfl rfl F2, Q2, KI_e K (fun p hp => ?_), LZ_e Z (e1 79 rfl rfl), TP_e T (congrFun (e1 68 rfl rfl) 1) (e1 69 rfl rfl), RP_e P (e81 4 (by omega)) (e1 85 rfl rfl), lw3_e l3 (e1 72 rfl rfl), ?_, ?_⟩, r2⟩
  · match p, hp with
    | 0, _ => exact e1 0 rfl rfl
    | 1, _ => exact e1 1 rfl rfl
    | 2, _ => exact e1 2 rfl rfl
    | 3, _ => exact e1 3 rfl rfl
    | 4, _ => exact e1 4 rfl rfl
    | 5, _ => exact e1 5 rfl rfl
    | p + 6, hp =>
      obtain rfl : p = 65 := by omega
      exact e1 71 rfl rfl
  · rw [congrFun (e1 72 rfl rfl) 3, e81 5 (by omega)]; exact f1
  · rw [congrFun (e1 72 rfl rfl) 4, e81 6 (by omega)]; exact f2
theorem stG_up {n n' dC kC : Nat} {asC : List Value} {dR kR : Nat} {asR : List Value} {dC' dR' : Nat} (H : stG n dC kC asC dR kR asR) (hn : n ≤ n') (h1 : dC ≤ dC') (h2 : dR ≤ dR') : stG n' dC' kC asC dR' kR asR := by
  intro L t lt rt rp sw h gl R A B TX b k G hR
  obtain ⟨v, t', lt', rt', rp', sw', h1', gl1, h2', gl2, R', A', B', TX', b', k', c1, c2, z1, z2, G', r⟩ := H L t lt rt rp sw h gl R A B TX b k G (by omega)
  exact ⟨v, t', lt', rt', rp', sw', h1', gl1, h2', gl2, R', A', B', TX', b', k', av_up c1 h1, av_up c2 h2, z1, z2, G', by omega⟩
theorem st_lease (v1 v2 x : Int32) : stG 0 3 164 [.ref 7, .int v1, .int v2, .int x] 2 314 [.ref 81, .int v1, .int v2, .int x] := by
  intro L t lt rt rp sw h gl R A B TX b k G hR
  obtain ⟨C, Q, K, Z, T, P, l3, f1, f2⟩ := G
  obtain ⟨r, oC, oR⟩ := p_lease (B := B) (TX := TX) C.1 v1 v2 x
  obtain ⟨h1, c1, F1, C1, Z1⟩ := oC L t lt rt rp sw h gl R C Z
  have Q1 : RI A B TX h1 := RI_cf Q (S := [78, 79]) rfl F1
  obtain ⟨h2, gl2, c2, F2, j2, Q2⟩ := oR L t lt rt rp sw h1 gl C.1 Q1
  have e1 : ∀ p, [78, 79].contains p = false → rfS.contains p = false → h2 p = h p := fun p a c => (F2 p c).trans (F1 p a)
  have e81 : ∀ j, j ≠ 26 → h2 81 j = h 81 j := fun j hj => (j2 j hj).trans (congrFun (F1 81 rfl) j)
  refine ⟨r, t, lt, rt, rp, sw, h1, gl, h2, gl2, R, A, B, TX, b, k, c1, c2, F1 0 rfl, e1 0 rfl rfl, ⟨CI_cf C1 (S := rfS) rfl rfl rfl rfl F2, Q2, KI_e K (fun p hp => ?_), LZ_e Z1 (F2 79 rfl), TP_e T (congrFun (e1 68 rfl rfl) 1) (e1 69 rfl rfl), RP_e P (e81 4 (by omega)) (e1 85 rfl rfl), lw3_e l3 (e1 72 rfl rfl), ?_, ?_⟩, by omega⟩
  · match p, hp with
    | 0, _ => exact e1 0 rfl rfl
    | 1, _ => exact e1 1 rfl rfl
    | 2, _ => exact e1 2 rfl rfl
    | 3, _ => exact e1 3 rfl rfl
    | 4, _ => exact e1 4 rfl rfl
    | 5, _ => exact e1 5 rfl rfl
    | p + 6, hp =>
      obtain rfl : p = 65 := by omega
      exact e1 71 rfl rfl
  · rw [congrFun (e1 72 rfl rfl) 3, e81 5 (by omega)]; exact f1
  · rw [congrFun (e1 72 rfl rfl) 4, e81 6 (by omega)]; exact f2
/-- a holding in which a text has come -/
theorem HR_text {A : Nat → Int32} {h h' : Nat → Nat → Int32} {v : Int32} (hA : rOK A) (H : HR 11 A h) (e11 : h' 11 = va_up (h 11) 12 v) (e : ∀ p, 12 ≤ p → p < 33 → h' p = h p) : HR 11 (va_up A 1 v) h' := by
  have cf : CF [11] h (mvPut h 11 12 v) := CF_put CF_refl rfl
  have hr : HR 11 (va_up A 1 v) (mvPut h 11 12 v) := HR_gen (S := [11]) hA H cf (Or.inl ⟨rfl, (same_up (by omega))⟩) (Or.inl ⟨rfl, (va_up_ne _ _ (by omega)), (same_up (by omega)), (same_up (by omega))⟩) (Or.inl ⟨rfl, (va_up_ne _ _ (by omega)), (same_up (by omega))⟩) (Or.inr (by
    have := PR_A hA H.2.2.2.1 (va_up_ne A v (show (3 : Nat) ≠ 1 by omega)) (same_up (by omega))
    exact this)) (Or.inl ⟨rfl, (va_up_ne _ _ (by omega)), (same_up (by omega))⟩) (Or.inl ⟨rfl, (va_up_ne _ _ (by omega)), (same_up (by omega))⟩) (Or.inl ⟨rfl, (va_up_ne _ _ (by omega)), (same_up (by omega))⟩) (Or.inl ⟨rfl, (va_up_ne _ _ (by omega)), (same_up (by omega))⟩) (Or.inl ⟨rfl, (same_up (by omega))⟩) (H.2.2.2.2.2.2.1.trans (va_up_ne _ _ (by omega)).symm) rfl
  refine HR_cf hr (fun p h1 h2 => ?_)
  by_cases c : p = 11
  · subst c
    rw [e11]
    unfold mvPut
    rw [va_up_self]
  · rw [e p (by omega) (by omega)]
    unfold mvPut
    rw [va_up_ne _ _ c]
theorem st_text : stG 1 83 36 [.ref 7] 12 196 [.ref 81] := by
  intro L t lt rt rp sw h gl R A B TX b k G hR
  have G0 := G
  obtain ⟨C, Q, K, Z, T, P, l3, f1, f2⟩ := G
  obtain ⟨n1, n2, n3⟩ := C.2.2.1
  have e1 : A 1 = nI (gN A 1) := gN_eq C.1.1 (by omega) (by decide)
  have h11 : h 11 12 = nI (gN A 1) := C.2.2.2.1.2.2.2.2.2.2.2.trans e1
  have a82 : h 82 1 = nI (gN A 1) := (congrFun Q.1 1).trans e1
  obtain ⟨x, hx⟩ : ∃ x, gN A 1 = x := ⟨_, rfl⟩
  rw [hx] at e1 h11 a82 n1 n2
  by_cases c4 : x = 4
  · subst c4
    exact ⟨-1, t, lt, rt, rp, sw, h, gl, h, gl, R, A, B, TX, b, k, av_up (e_ctext4 h11) (by decide), r_text4 a82, rfl, rfl, G0, by omega⟩
  · obtain ⟨t', n, r, v, h1, h', gl', t1, t2, t3, N, hr, CC, E1, X⟩ := e_ctext (L := L) (t := t) (lt := lt) (rt := rt) (rp := rp) (sw := sw) (gl := gl) n2 (by omega) n3 h11 K T l3
    have E : ∀ p, p < 98 → p ≠ 8 → p ≠ 11 → p ≠ 68 → p ≠ 70 → p ≠ 72 → h' p = h p := fun p a1 a2 a3 a4 a5 a6 => (X.1 p a2 a3 a4 a5 a6 (by omega)).trans (E1 p (by omega))
    have P' : RP b k h' := RP_e P (congrFun (E 81 (by omega) (by omega) (by omega) (by omega) (by omega) (by omega)) 4) (E 85 (by omega) (by omega) (by omega) (by omega) (by omega) (by omega))
    have e82 : h' 82 = h 82 := E 82 (by omega) (by omega) (by omega) (by omega) (by omega) (by omega)
    have e81 : h' 81 = h 81 := E 81 (by omega) (by omega) (by omega) (by omega) (by omega) (by omega)
    have e83 : h' 83 = h 83 := E 83 (by omega) (by omega) (by omega) (by omega) (by omega) (by omega)
    have e84 : h' 84 = h 84 := E 84 (by omega) (by omega) (by omega) (by omega) (by omega) (by omega)
    obtain ⟨v2, h2, gl2, C2, X2⟩ := r_text (L := L) (t := t') (lt := lt) (rt := some (98 + 7 * x)) (rp := some 68) (sw := sw) (gl := gl') P' N ((congrFun e82 1).trans a82) (by omega) hr
    have F2 : ∀ o, o < 81 ∨ 98 ≤ o → h2 o = h' o := fun o ho => X2.1 o (by omega) (by omega) (by omega) (by omega)
    have F : ∀ p, p < 81 → p ≠ 8 → p ≠ 11 → p ≠ 68 → p ≠ 70 → p ≠ 72 → h2 p = h p := fun p a1 a2 a3 a4 a5 a6 => (F2 p (Or.inl a1)).trans (E p (by omega) a2 a3 a4 a5 a6)
    have K2 : KI h2 := KI_e K (fun p hp => F p (by omega) (by omega) (by omega) (by omega) (by omega) (by omega))
    have Z2 : LZ h2 := LZ_e Z (F 79 (by omega) (by omega) (by omega) (by omega) (by omega) (by omega))
    have T2 : TP b 0 h2 := ⟨(congrFun (F2 68 (by omega)) 1).trans X.2.2.1, by omega, fun i hi => absurd hi (Nat.not_lt_zero _)⟩
    have P2 : RP b 0 h2 := ⟨X2.2.2.2.1, by omega, fun i hi => absurd hi (Nat.not_lt_zero _)⟩
    have l2 : lw3 h2 := lw3_e X.2.2.2.1 (F2 72 (by omega))
    have z1 : h' 0 = h 0 := E 0 (by omega) (by omega) (by omega) (by omega) (by omega) (by omega)
    have z2 : h2 0 = h 0 := F 0 (by omega) (by omega) (by omega) (by omega) (by omega) (by omega)
    have tx : ∀ i, i < x → txC (TX i) h2 (98 + 7 * i) := fun i hi => txC_loc (fun p p1 p2 => (F2 p (by omega)).trans ((X.1 p (by omega) (by omega) (by omega) (by omega) (by omega) (by omega)).trans (E1 p (by omega)))) (C.2.2.2.2.2.1 i (by omega))
    have tf : ∀ i, i < x → txF (TX i) (h2 84) i := fun i hi => txF_T (fun q q1 q2 => (X2.2.2.1 q (by omega)).trans (congrFun e84 q)) (C.2.2.2.2.2.1 i (by omega)).1 (Q.2.2.2 i (by omega))
    have w25 : h2 81 25 = nI 1 := (X2.2.1 25 (by omega)).trans ((congrFun e81 25).trans Q.2.2.1)
    have b83 : h2 83 = B := (X2.1 83 (by omega) (by omega) (by omega) (by omega)).trans (e83.trans Q.2.1)
    have hr40 : HR 40 B h2 := HR_cf C.2.2.2.2.1 (fun p p1 p2 => F p (by omega) (by omega) (by omega) (by omega) (by omega) (by omega))
    have e9 : h2 9 = h 9 := F 9 (by omega) (by omega) (by omega) (by omega) (by omega) (by omega)
    have e10 : h2 10 = h 10 := F 10 (by omega) (by omega) (by omega) (by omega) (by omega) (by omega)
    have e39 : h2 39 = h 39 := F 39 (by omega) (by omega) (by omega) (by omega) (by omega) (by omega)
    obtain ⟨_, _, _, _, XM⟩ := X
    obtain ⟨_, _, _, _, XM2⟩ := X2
    cases r with
    | inr cj =>
      obtain ⟨c, j⟩ := cj
      obtain ⟨y1, y2, y3, y4, y5⟩ := XM
      obtain ⟨w1, w2, w3, w4, w5⟩ := XM2
      subst y1 w1
      have e8 : h2 8 = h 8 := (F2 8 (by omega)).trans (y2.trans (E1 8 (by omega)))
      have e11 : h2 11 = h 11 := (F2 11 (by omega)).trans (y3.trans (E1 11 (by omega)))
      refine ⟨-1, t', lt, some (98 + 7 * x), some 68, sw, h', gl', h2, gl2, R, A, B, TX, b, 0, CC, C2, z1, z2, ⟨⟨C.1, C.2.1, by omega, ?_, hr40, fun i hi => tx i (by omega), ?_⟩, ⟨w2.trans (e82.trans Q.1), b83, w25, fun i hi => tf i (by omega)⟩, K2, Z2, T2, P2, l2, ?_, ?_⟩, by omega⟩
      · refine HR_cf C.2.2.2.1 (fun p p1 p2 => ?_)
        by_cases c : p = 11
        · rw [c]; exact e11
        · exact F p (by omega) (by omega) c (by omega) (by omega) (by omega)
      · obtain ⟨f0, g1, g2⟩ := C.2.2.2.2.2.2
        exact ⟨f0, LawS_cf g1 e8 e9 e10 e39, g2⟩
      · rw [congrFun (F2 72 (by omega)) 3, y4, w3]
      · rw [congrFun (F2 72 (by omega)) 4, y5, w4]
    | inl Xj =>
      obtain ⟨X', j⟩ := Xj
      obtain ⟨y1, y2, y3, y4, y5, y6⟩ := XM
      obtain ⟨w1, w2, w3, w4, w5⟩ := XM2
      subst y1 w1
      have e8 : h2 8 = va_up (h 8) 9 (h 8 9 + nI 1) := by
        rw [F2 8 (by omega), y2, E1 8 (by omega)]
      have e11 : h2 11 = va_up (h 11) 12 (nI (x + 1)) := by
        rw [F2 11 (by omega), y3, E1 11 (by omega)]
      have g1 : gN (va_up A 1 (nI (x + 1))) 1 = x + 1 := by
        unfold gN
        rw [va_up_self, nI_toInt (by omega)]
        omega
      have ok : okA (va_up A 1 (nI (x + 1))) := by
        refine ⟨rOK_up C.1.1 (show (0 : Int) ≤ (nI (x + 1)).toInt ∧ (nI (x + 1)).toInt ≤ 4 by rw [nI_toInt (by omega)]; omega), UI_A C.1.1 C.1.2.1 (va_up_ne _ _ (by omega)) (va_up_ne _ _ (by omega)) (same_up (by omega)) (same_up (by omega)), ?_⟩
        rw [va_up_self, va_up_ne _ _ (by omega), nI_toInt (by omega)]
        have := C.1.2.2
        rw [e1, nI_toInt (by omega)] at this
        omega
      have txX : txC X' h2 (98 + 7 * x) := txC_loc (fun p p1 p2 => F2 p (by omega)) y6
      refine ⟨nI x, t', lt, some (98 + 7 * x), some 68, sw, h', gl', h2, gl2, R + 1, va_up A 1 (nI (x + 1)), B, fun i => if i = x then X' else TX i, b, 0, CC, C2, z1, z2, ⟨⟨ok, C.2.1, by rw [g1]; omega, ?_, hr40, fun i hi => ?_, ?_⟩, ⟨?_, b83, w25, fun i hi => ?_⟩, K2, Z2, T2, P2, l2, ?_, ?_⟩, by omega⟩
      · exact HR_text C.1.1 C.2.2.2.1 e11 (fun p p1 p2 => F p (by omega) (by omega) (by omega) (by omega) (by omega) (by omega))
      · dsimp only
        by_cases c : i = x
        · rw [if_pos c, c]; exact txX
        · rw [if_neg c]; exact tx i (by omega)
      · refine LI_forget C.2.2.2.2.2.2 (by omega) e8 e39 ?_
        rw [e9, e10]
        exact rPth_ext (op := frA A) (fun j hj => by unfold frA; rw [va_up_ne _ _ (by omega)]) (CI_rP C)
      · rw [w2, e82, Q.1]
      · dsimp only
        by_cases c : i = x
        · rw [if_pos c, c]; exact w5 h2 _ txX
        · rw [if_neg c]; exact tf i (by omega)
      · rw [congrFun (F2 72 (by omega)) 3, y4, w3]
      · rw [congrFun (F2 72 (by omega)) 4, y5, w4]
