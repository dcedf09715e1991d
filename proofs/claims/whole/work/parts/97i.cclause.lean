/-! CLAUSES: the class, clause by clause -/
section CD
variable {L t : Nat} {lt : Option Nat} {sw : Bool} {gl : Nat → Nat → Int64} {b : Nat → Nat} {k n x : Nat}
theorem cl_o {c p q : Nat} {wd v1 v2 : Int32} {h : Nat → Nat → Int32} (hp : p ≠ 98 + 7 * x + 1 ∧ p ≠ 98 + 7 * x + 2 ∧ p ≠ 98 + 7 * x + 3 ∧ (p ≠ 98 + 7 * x ∨ q ≠ 3)) : (clPu x c wd v1 v2 h) p q = h p q := by
  simp only [put_at]
  rw [if_neg (by omega), if_neg (by omega), if_neg (by omega), if_neg (by omega)]
theorem cls_add {X : Txt} {h : Nat → Nat → Int32} {s a c2 : Nat} {fo : Option (E1 → Int)} (hs : s < 10) (h9 : s = 9 → a ≤ 60) (hc : X.2.1 < 24) (O : clsOK X.2) (C : clsC X.2 h (98 + 7 * x)) : clsOK (addX X s a c2 fo).2 ∧ clsC (addX X s a c2 fo).2 (clPu x X.2.1 (nI (wdOf s)) (nI a) (nI c2) h) (98 + 7 * x) := by
  obtain ⟨o1, o2⟩ := O
  obtain ⟨c1, c3⟩ := C
  refine ⟨⟨by show X.2.1 + 1 ≤ 24; omega, fun i hi => ?_⟩, put_eq, fun i hi => ?_⟩
  · have hi' : i < X.2.1 + 1 := hi
    show ((if i = X.2.1 then (s, nI a, nI c2) else X.2.2 i).1 < 10) ∧ ((if i = X.2.1 then (s, nI a, nI c2) else X.2.2 i).1 = 9 → ∃ q, q ≤ 60 ∧ (if i = X.2.1 then (s, nI a, nI c2) else X.2.2 i).2.1 = nI q)
    by_cases e : i = X.2.1
    · rw [if_pos e]; exact ⟨hs, fun z => ⟨a, h9 z, rfl⟩⟩
    · rw [if_neg e]; exact o2 i (by omega)
  · have hi' : i < X.2.1 + 1 := hi
    show _ = nI (wdOf (if i = X.2.1 then (s, nI a, nI c2) else X.2.2 i).1) ∧ (has1 (if i = X.2.1 then (s, nI a, nI c2) else X.2.2 i).1 → _ = (if i = X.2.1 then (s, nI a, nI c2) else X.2.2 i).2.1) ∧ (has2 (if i = X.2.1 then (s, nI a, nI c2) else X.2.2 i).1 → _ = (if i = X.2.1 then (s, nI a, nI c2) else X.2.2 i).2.2)
    by_cases e : i = X.2.1
    · rw [if_pos e, e]
      refine ⟨?_, fun _ => ?_, fun _ => ?_⟩
      · simp only [put_at]; rw [if_neg (by omega), if_neg (by omega), if_neg (by omega), if_pos (by simp)]
      · simp only [put_at]; rw [if_neg (by omega), if_neg (by omega), if_pos (by simp)]
      · simp only [put_at]; rw [if_neg (by omega), if_pos (by simp)]
    · rw [if_neg e]
      obtain ⟨d1, d2, d3⟩ := c3 i (by omega)
      refine ⟨?_, fun z => ?_, fun z => ?_⟩
      · rw [← d1]; simp only [put_at]; rw [if_neg (by omega), if_neg (by omega), if_neg (by omega), if_neg (by omega)]
      · rw [← d2 z]; simp only [put_at]; rw [if_neg (by omega), if_neg (by omega), if_neg (by omega), if_neg (by omega)]
      · rw [← d3 z]; simp only [put_at]; rw [if_neg (by omega), if_neg (by omega), if_neg (by omega), if_neg (by omega)]
theorem CX_adv {X : Txt} {i len : Nat} {h : Nat → Nat → Int32} (H : CX b k n x X i len h) (hi : i < n) : CX b k n x X (i + 1) len (adv h i) := by
  obtain ⟨a1, ⟨law, l1, l2⟩, a2, a3, a4, a5, a6, a7, a8, a9⟩ := H
  refine ⟨CA_adv a1 hi, ⟨law, l1, (put_o (by omega)).trans l2⟩, (put_o (by omega)).trans a2, (put_o (by omega)).trans a3, (put_o (by omega)).trans a4, by omega, (put_ne (by omega)).trans a6, a7, ?_, fun s hs => lawC_up (a9 s hs) a4 ((put_o (by omega)).trans a4) (Nat.le_refl _) (by have := a1.2.2.1; have := a1.2.2.2; have := a1.1.2.2.2.1; omega) (put_o (by omega)) (put_o (by omega)) (fun q _ => put_o (by omega))⟩
  unfold clsC at a8 ⊢
  rw [show (adv h i) (98 + 7 * x) = h (98 + 7 * x) from put_ne (by omega), show (adv h i) (98 + 7 * x + 1) = h (98 + 7 * x + 1) from put_ne (by omega), show (adv h i) (98 + 7 * x + 2) = h (98 + 7 * x + 2) from put_ne (by omega), show (adv h i) (98 + 7 * x + 3) = h (98 + 7 * x + 3) from put_ne (by omega)]
  exact a8
/-- a deed's clause is added -/
theorem CX_deed {X : Txt} {i len s a c2 : Nat} {h : Nat → Nat → Int32} (H : CX b k n x X i len h) (hs : 3 ≤ s ∧ s < 10) (h9 : s = 9 → a ≤ 60) (hc : X.2.1 < 24) : CX b k n x (addX X s a c2 none) i len (clPu x X.2.1 (nI (wdOf s)) (nI a) (nI c2) h) := by
  obtain ⟨a1, ⟨law, l1, l2⟩, a2, a3, a4, a5, a6, a7, a8, a9⟩ := H
  obtain ⟨b1, b2⟩ := cls_add (fo := none) (s := s) (a := a) (c2 := c2) (by omega) h9 hc a7 a8
  have e1 : (clPu x X.2.1 (nI (wdOf s)) (nI a) (nI c2) h) 1 = h 1 := funext fun q => cl_o (by omega)
  refine ⟨CA_ft a1 FT_cl (cl_o (by omega)), ⟨law, l1, (cl_o (by omega)).trans l2⟩, (cl_o (by omega)).trans a2, (cl_o (by omega)).trans a3, (cl_o (by omega)).trans a4, a5, e1.trans a6, b1, b2, fun q hq => ?_⟩
  have e : (addX X s a c2 none).1 q = X.1 q := if_neg (by omega)
  rw [e]
  exact lawC_up (a9 q hq) a4 ((cl_o (by omega)).trans a4) (Nat.le_refl _) (by have := a1.2.2.1; have := a1.2.2.2; have := a1.1.2.2.2.1; omega) (cl_o (by omega)) (cl_o (by omega)) (fun q _ => cl_o (by omega))
theorem FL_FT {h : Nat → Nat → Int32} {c p : Nat} : FT x h (flS h c p) := FT_trans (FT_put (by omega)) (FT_put (by omega))
/-- what a deed's reading says: the clause is added, or a fault -/
def RB (b : Nat → Nat) (k n x : Nat) (X : Txt) (s : Nat) (h : Nat → Nat → Int32) (r : Rb) (h' : Nat → Nat → Int32) : Prop := FT x h h' ∧ match r with
  | .inl (a, c, j) => ∃ len, CX b k n x (addX X s a c none) j len h'
  | .inr (c, j) => DD b k n x h' ∧ h' 72 3 = nI c ∧ h' 72 4 = nI (tP b k j)
theorem RB_bad {X : Txt} {s c j cc : Nat} {wd v1 v2 : Int32} {h h1 : Nat → Nat → Int32} (F : FT x h h1) (D : DD b k n x h1) (e3 : h1 72 3 = nI c) (e4 : h1 72 4 = nI (tP b k j)) : RB b k n x X s h (.inr (c, j)) (clPu x cc wd v1 v2 h1) := by
  obtain ⟨d1, d2⟩ := DD_cl (c := cc) (wd := wd) (v1 := v1) (v2 := v2) D
  exact ⟨FT_trans F FT_cl, d1, by rw [d2]; exact e3, by rw [d2]; exact e4⟩
theorem fl_3 {h : Nat → Nat → Int32} {c p q : Nat} : (flS h c p) (98 + 7 * x) q = h (98 + 7 * x) q := (put_o (by omega)).trans (put_o (by omega))
theorem e_pair (hx : x < t) {X : Txt} {i len s m1 wd m2 : Nat} {h : Nat → Nat → Int32} (H : CX b k n x X i len h) (hs : 3 ≤ s ∧ s < 9) (hc : X.2.1 < 24) (h1 : m1 < 10000) (h2 : m2 < 10000) (hw : wd < 46) : ∃ h', avE 4 80 [.ref 72, .int (nI (wdOf s)), .int (nI m1), .int (nI wd), .int (nI m2)] (sD L t lt x sw h gl) (none, sD L t lt x sw h' gl) ∧ RB b k n x X s h (prO (cdT b k) (nmT b k) m1 wd m2 i) h' := by
  obtain ⟨law, A⟩ := CX_AL H
  have l3 := (CA_at A.1).2.2
  have cn : h (98 + 7 * x) 3 = nI X.2.1 := H.2.2.2.2.2.2.2.2.1.1
  unfold prO fgO
  by_cases q1 : cdT b k i = 45
  · rw [if_pos q1]
    by_cases q2 : nmT b k i < 0 ∨ m1 < nmT b k i
    · rw [if_pos q2]
      obtain ⟨D, d1, d2, d3⟩ := AL_fail (c := 2) A (p := tP b k i) (by decide)
      obtain ⟨v, hv, CN⟩ := e_numD (L := L) (t := t) (lt := lt) (sw := sw) (gl := gl) D 0 m2 (by decide) h2
      refine ⟨_, ?_, RB_bad (cc := X.2.1) (wd := nI (wdOf s)) (v1 := nI (nmT b k i)) (v2 := nI v) FL_FT D d1 d2⟩
      show avA _ 80 0 [.ref 72, .int (nI (wdOf s)), .int (nI (m1)), .int (nI (wd)), .int (nI (m2)), mvU, mvU] [] _ _
      refine a_aload_0 rfl rfl ?_
      refine a_iconst (v := (nI 0)) rfl rfl rfl ?_
      refine a_iload_2 rfl rfl ?_
      refine a_virtI rfl rfl (e_numF A q1 q2 h1 (by decide)) (Nat.le_of_ble_eq_true rfl) ⟨rfl, rfl, rfl, rfl⟩ rfl rfl rfl (Nat.le_of_ble_eq_true rfl) rfl rfl ?_
      refine a_istore_5 rfl rfl rfl ?_
      refine a_aload_0 rfl rfl ?_
      refine a_iload_3 rfl rfl ?_
      refine a_virt0 rfl rfl (e_takeD D wd (by omega)) (Nat.le_of_ble_eq_true rfl) ⟨rfl, rfl, rfl, rfl⟩ rfl rfl rfl (Nat.le_of_ble_eq_true rfl) rfl rfl ?_
      refine a_aload_0 rfl rfl ?_
      refine a_iconst (v := (nI 0)) rfl rfl rfl ?_
      refine a_iload_4 rfl rfl ?_
      refine a_virtI rfl rfl (CN) (Nat.le_of_ble_eq_true rfl) ⟨rfl, rfl, rfl, rfl⟩ rfl rfl rfl (Nat.le_of_ble_eq_true rfl) rfl rfl ?_
      refine a_istore_6 rfl rfl rfl ?_
      refine a_aload_0 rfl rfl ?_
      refine a_getr rfl rfl rfl (fun _ _ _ => rfl) rfl ?_
      refine a_iload_1 rfl rfl ?_
      refine a_iload_5 rfl rfl ?_
      refine a_iload_6 rfl rfl ?_
      refine a_virt0 rfl rfl (e_addCl hx X.2.1 hc (fl_3.trans cn) _ _ _) (Nat.le_of_ble_eq_true rfl) ⟨rfl, rfl, rfl, rfl⟩ rfl rfl rfl (Nat.le_of_ble_eq_true rfl) (congrArg Prod.fst (tx_t hx)) rfl ?_
      exact a_vret rfl rfl
    · rw [if_neg q2]
      dsimp only
      have hin := CA_lt A.1 (by omega)
      have H1 := CX_adv H hin
      have A1 := AL_adv A hin
      have cn1 : (adv h i) (98 + 7 * x) 3 = nI X.2.1 := (put_o (by omega)).trans cn
      have C1 := e_numT (L := L) (t := t) (lt := lt) (sw := sw) (gl := gl) A (lo := 0) (hi := m1) q1 (Nat.zero_le _) (by omega) h1
      have l4 := (CA_at A1.1).2.2
      by_cases q3 : cdT b k (i + 1) = wd
      · rw [if_pos q3]
        have hin2 := CA_lt A1.1 (by omega)
        have H2 := CX_adv H1 hin2
        have A2 := AL_adv A1 hin2
        have cn2 : (adv (adv h i) (i + 1)) (98 + 7 * x) 3 = nI X.2.1 := (put_o (by omega)).trans cn1
        have F2 : FT x h (adv (adv h i) (i + 1)) := FT_trans (FT_put (by omega)) (FT_put (by omega))
        have l5 := (CA_at A2.1).2.2
        by_cases q4 : cdT b k (i + 1 + 1) = 45
        · rw [if_pos q4]
          by_cases q5 : nmT b k (i + 1 + 1) < 0 ∨ m2 < nmT b k (i + 1 + 1)
          · rw [if_pos q5]
            obtain ⟨D, d1, d2, d3⟩ := AL_fail (c := 2) A2 (p := tP b k (i + 1 + 1)) (by decide)
            refine ⟨_, ?_, RB_bad (cc := X.2.1) (wd := nI (wdOf s)) (v1 := nI (nmT b k i)) (v2 := nI (nmT b k (i + 1 + 1))) (FT_trans F2 FL_FT) D d1 d2⟩
            show avA _ 80 0 [.ref 72, .int (nI (wdOf s)), .int (nI (m1)), .int (nI (wd)), .int (nI (m2)), mvU, mvU] [] _ _
            refine a_aload_0 rfl rfl ?_
            refine a_iconst (v := (nI 0)) rfl rfl rfl ?_
            refine a_iload_2 rfl rfl ?_
            refine a_virtI rfl rfl (C1) (Nat.le_of_ble_eq_true rfl) ⟨rfl, rfl, rfl, rfl⟩ rfl rfl rfl (Nat.le_of_ble_eq_true rfl) rfl rfl ?_
            refine a_istore_5 rfl rfl rfl ?_
            refine a_aload_0 rfl rfl ?_
            refine a_iload_3 rfl rfl ?_
            refine a_virt0 rfl rfl (e_takeT A1 q3 (by omega)) (Nat.le_of_ble_eq_true rfl) ⟨rfl, rfl, rfl, rfl⟩ rfl rfl rfl (Nat.le_of_ble_eq_true rfl) rfl rfl ?_
            refine a_aload_0 rfl rfl ?_
            refine a_iconst (v := (nI 0)) rfl rfl rfl ?_
            refine a_iload_4 rfl rfl ?_
            refine a_virtI rfl rfl (e_numF A2 q4 q5 h2 (by decide)) (Nat.le_of_ble_eq_true rfl) ⟨rfl, rfl, rfl, rfl⟩ rfl rfl rfl (Nat.le_of_ble_eq_true rfl) rfl rfl ?_
            refine a_istore_6 rfl rfl rfl ?_
            refine a_aload_0 rfl rfl ?_
            refine a_getr rfl rfl rfl (fun _ _ _ => rfl) rfl ?_
            refine a_iload_1 rfl rfl ?_
            refine a_iload_5 rfl rfl ?_
            refine a_iload_6 rfl rfl ?_
            refine a_virt0 rfl rfl (e_addCl hx X.2.1 hc (fl_3.trans cn2) _ _ _) (Nat.le_of_ble_eq_true rfl) ⟨rfl, rfl, rfl, rfl⟩ rfl rfl rfl (Nat.le_of_ble_eq_true rfl) (congrArg Prod.fst (tx_t hx)) rfl ?_
            exact a_vret rfl rfl
          · rw [if_neg q5]
            have hin3 := CA_lt A2.1 (by omega)
            have H3 := CX_adv H2 hin3
            refine ⟨_, ?_, FT_trans (FT_trans F2 (FT_put (x := x) (o := 68) (j := 4) (v := nI (i + 1 + 1 + 1)) (by omega))) (FT_cl (c := X.2.1) (wd := nI (wdOf s)) (v1 := nI (nmT b k i)) (v2 := nI (nmT b k (i + 1 + 1)))), len, CX_deed H3 (by omega) (by omega) hc⟩
            show avA _ 80 0 [.ref 72, .int (nI (wdOf s)), .int (nI (m1)), .int (nI (wd)), .int (nI (m2)), mvU, mvU] [] _ _
            refine a_aload_0 rfl rfl ?_
            refine a_iconst (v := (nI 0)) rfl rfl rfl ?_
            refine a_iload_2 rfl rfl ?_
            refine a_virtI rfl rfl (C1) (Nat.le_of_ble_eq_true rfl) ⟨rfl, rfl, rfl, rfl⟩ rfl rfl rfl (Nat.le_of_ble_eq_true rfl) rfl rfl ?_
            refine a_istore_5 rfl rfl rfl ?_
            refine a_aload_0 rfl rfl ?_
            refine a_iload_3 rfl rfl ?_
            refine a_virt0 rfl rfl (e_takeT A1 q3 (by omega)) (Nat.le_of_ble_eq_true rfl) ⟨rfl, rfl, rfl, rfl⟩ rfl rfl rfl (Nat.le_of_ble_eq_true rfl) rfl rfl ?_
            refine a_aload_0 rfl rfl ?_
            refine a_iconst (v := (nI 0)) rfl rfl rfl ?_
            refine a_iload_4 rfl rfl ?_
            refine a_virtI rfl rfl (e_numT A2 q4 (Nat.zero_le _) (by omega) h2) (Nat.le_of_ble_eq_true rfl) ⟨rfl, rfl, rfl, rfl⟩ rfl rfl rfl (Nat.le_of_ble_eq_true rfl) rfl rfl ?_
            refine a_istore_6 rfl rfl rfl ?_
            refine a_aload_0 rfl rfl ?_
            refine a_getr rfl rfl rfl (fun _ _ _ => rfl) rfl ?_
            refine a_iload_1 rfl rfl ?_
            refine a_iload_5 rfl rfl ?_
            refine a_iload_6 rfl rfl ?_
            refine a_virt0 rfl rfl (e_addCl hx X.2.1 hc ((put_o (by omega)).trans cn2) _ _ _) (Nat.le_of_ble_eq_true rfl) ⟨rfl, rfl, rfl, rfl⟩ rfl rfl rfl (Nat.le_of_ble_eq_true rfl) (congrArg Prod.fst (tx_t hx)) rfl ?_
            exact a_vret rfl rfl
        · rw [if_neg q4]
          obtain ⟨D, d1, d2, d3⟩ := AL_fail (c := 1) A2 (p := tP b k (i + 1 + 1)) (by decide)
          refine ⟨_, ?_, RB_bad (cc := X.2.1) (wd := nI (wdOf s)) (v1 := nI (nmT b k i)) (v2 := nI (nmT b k (i + 1 + 1))) (FT_trans F2 FL_FT) D d1 d2⟩
          show avA _ 80 0 [.ref 72, .int (nI (wdOf s)), .int (nI (m1)), .int (nI (wd)), .int (nI (m2)), mvU, mvU] [] _ _
          refine a_aload_0 rfl rfl ?_
          refine a_iconst (v := (nI 0)) rfl rfl rfl ?_
          refine a_iload_2 rfl rfl ?_
          refine a_virtI rfl rfl (C1) (Nat.le_of_ble_eq_true rfl) ⟨rfl, rfl, rfl, rfl⟩ rfl rfl rfl (Nat.le_of_ble_eq_true rfl) rfl rfl ?_
          refine a_istore_5 rfl rfl rfl ?_
          refine a_aload_0 rfl rfl ?_
          refine a_iload_3 rfl rfl ?_
          refine a_virt0 rfl rfl (e_takeT A1 q3 (by omega)) (Nat.le_of_ble_eq_true rfl) ⟨rfl, rfl, rfl, rfl⟩ rfl rfl rfl (Nat.le_of_ble_eq_true rfl) rfl rfl ?_
          refine a_aload_0 rfl rfl ?_
          refine a_iconst (v := (nI 0)) rfl rfl rfl ?_
          refine a_iload_4 rfl rfl ?_
          refine a_virtI rfl rfl (e_numN A2 q4) (Nat.le_of_ble_eq_true rfl) ⟨rfl, rfl, rfl, rfl⟩ rfl rfl rfl (Nat.le_of_ble_eq_true rfl) rfl rfl ?_
          refine a_istore_6 rfl rfl rfl ?_
          refine a_aload_0 rfl rfl ?_
          refine a_getr rfl rfl rfl (fun _ _ _ => rfl) rfl ?_
          refine a_iload_1 rfl rfl ?_
          refine a_iload_5 rfl rfl ?_
          refine a_iload_6 rfl rfl ?_
          refine a_virt0 rfl rfl (e_addCl hx X.2.1 hc (fl_3.trans cn2) _ _ _) (Nat.le_of_ble_eq_true rfl) ⟨rfl, rfl, rfl, rfl⟩ rfl rfl rfl (Nat.le_of_ble_eq_true rfl) (congrArg Prod.fst (tx_t hx)) rfl ?_
          exact a_vret rfl rfl
      · rw [if_neg q3]
        obtain ⟨D, d1, d2, d3⟩ := AL_fail (c := 1) A1 (p := tP b k (i + 1)) (by decide)
        obtain ⟨v, hv, CN⟩ := e_numD (L := L) (t := t) (lt := lt) (sw := sw) (gl := gl) D 0 m2 (by decide) h2
        refine ⟨_, ?_, RB_bad (cc := X.2.1) (wd := nI (wdOf s)) (v1 := nI (nmT b k i)) (v2 := nI v) (FT_trans (FT_put (o := 68) (j := 4) (by omega)) FL_FT) D d1 d2⟩
        show avA _ 80 0 [.ref 72, .int (nI (wdOf s)), .int (nI (m1)), .int (nI (wd)), .int (nI (m2)), mvU, mvU] [] _ _
        refine a_aload_0 rfl rfl ?_
        refine a_iconst (v := (nI 0)) rfl rfl rfl ?_
        refine a_iload_2 rfl rfl ?_
        refine a_virtI rfl rfl (C1) (Nat.le_of_ble_eq_true rfl) ⟨rfl, rfl, rfl, rfl⟩ rfl rfl rfl (Nat.le_of_ble_eq_true rfl) rfl rfl ?_
        refine a_istore_5 rfl rfl rfl ?_
        refine a_aload_0 rfl rfl ?_
        refine a_iload_3 rfl rfl ?_
        refine a_virt0 rfl rfl (e_takeF A1 q3 (by omega)) (Nat.le_of_ble_eq_true rfl) ⟨rfl, rfl, rfl, rfl⟩ rfl rfl rfl (Nat.le_of_ble_eq_true rfl) rfl rfl ?_
        refine a_aload_0 rfl rfl ?_
        refine a_iconst (v := (nI 0)) rfl rfl rfl ?_
        refine a_iload_4 rfl rfl ?_
        refine a_virtI rfl rfl (CN) (Nat.le_of_ble_eq_true rfl) ⟨rfl, rfl, rfl, rfl⟩ rfl rfl rfl (Nat.le_of_ble_eq_true rfl) rfl rfl ?_
        refine a_istore_6 rfl rfl rfl ?_
        refine a_aload_0 rfl rfl ?_
        refine a_getr rfl rfl rfl (fun _ _ _ => rfl) rfl ?_
        refine a_iload_1 rfl rfl ?_
        refine a_iload_5 rfl rfl ?_
        refine a_iload_6 rfl rfl ?_
        refine a_virt0 rfl rfl (e_addCl hx X.2.1 hc (fl_3.trans cn1) _ _ _) (Nat.le_of_ble_eq_true rfl) ⟨rfl, rfl, rfl, rfl⟩ rfl rfl rfl (Nat.le_of_ble_eq_true rfl) (congrArg Prod.fst (tx_t hx)) rfl ?_
        exact a_vret rfl rfl
  · rw [if_neg q1]
    obtain ⟨D, d1, d2, d3⟩ := AL_fail (c := 1) A (p := tP b k i) (by decide)
    obtain ⟨v, hv, CN⟩ := e_numD (L := L) (t := t) (lt := lt) (sw := sw) (gl := gl) D 0 m2 (by decide) h2
    refine ⟨_, ?_, RB_bad (cc := X.2.1) (wd := nI (wdOf s)) (v1 := nI (nmT b k i)) (v2 := nI v) FL_FT D d1 d2⟩
    show avA _ 80 0 [.ref 72, .int (nI (wdOf s)), .int (nI (m1)), .int (nI (wd)), .int (nI (m2)), mvU, mvU] [] _ _
    refine a_aload_0 rfl rfl ?_
    refine a_iconst (v := (nI 0)) rfl rfl rfl ?_
    refine a_iload_2 rfl rfl ?_
    refine a_virtI rfl rfl (e_numN A q1) (Nat.le_of_ble_eq_true rfl) ⟨rfl, rfl, rfl, rfl⟩ rfl rfl rfl (Nat.le_of_ble_eq_true rfl) rfl rfl ?_
    refine a_istore_5 rfl rfl rfl ?_
    refine a_aload_0 rfl rfl ?_
    refine a_iload_3 rfl rfl ?_
    refine a_virt0 rfl rfl (e_takeD D wd (by omega)) (Nat.le_of_ble_eq_true rfl) ⟨rfl, rfl, rfl, rfl⟩ rfl rfl rfl (Nat.le_of_ble_eq_true rfl) rfl rfl ?_
    refine a_aload_0 rfl rfl ?_
    refine a_iconst (v := (nI 0)) rfl rfl rfl ?_
    refine a_iload_4 rfl rfl ?_
    refine a_virtI rfl rfl (CN) (Nat.le_of_ble_eq_true rfl) ⟨rfl, rfl, rfl, rfl⟩ rfl rfl rfl (Nat.le_of_ble_eq_true rfl) rfl rfl ?_
    refine a_istore_6 rfl rfl rfl ?_
    refine a_aload_0 rfl rfl ?_
    refine a_getr rfl rfl rfl (fun _ _ _ => rfl) rfl ?_
    refine a_iload_1 rfl rfl ?_
    refine a_iload_5 rfl rfl ?_
    refine a_iload_6 rfl rfl ?_
    refine a_virt0 rfl rfl (e_addCl hx X.2.1 hc (fl_3.trans cn) _ _ _) (Nat.le_of_ble_eq_true rfl) ⟨rfl, rfl, rfl, rfl⟩ rfl rfl rfl (Nat.le_of_ble_eq_true rfl) (congrArg Prod.fst (tx_t hx)) rfl ?_
    exact a_vret rfl rfl
end CD
