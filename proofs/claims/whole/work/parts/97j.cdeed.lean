/-! CLAUSES: the class, laws, deeds, a clause, a text -/
section CE
variable {L t : Nat} {lt : Option Nat} {sw : Bool} {gl : Nat → Nat → Int64} {b : Nat → Nat} {k n x : Nat}
theorem e_fig (hx : x < t) {X : Txt} {i len s lo hi : Nat} {h : Nat → Nat → Int32} (H : CX b k n x X i len h) (hs : (s = 6 ∧ lo = 0 ∧ hi = 29) ∨ (s = 9 ∧ lo = 1 ∧ hi = 60)) (hc : X.2.1 < 24) : ∃ h', avE 5 79 [.ref 72, .int (nI (wdOf s))] (sD L t lt x sw h gl) (none, sD L t lt x sw h' gl) ∧ RB b k n x X s h (fgO (cdT b k) (nmT b k) lo hi i (fun a j1 => .inl (a, 0, j1))) h' := by
  obtain ⟨law, A⟩ := CX_AL H
  have l3 := (CA_at A.1).2.2
  have cn : h (98 + 7 * x) 3 = nI X.2.1 := H.2.2.2.2.2.2.2.2.1.1
  unfold fgO
  by_cases q1 : cdT b k i = 45
  · rw [if_pos q1]
    by_cases q2 : nmT b k i < lo ∨ hi < nmT b k i
    · rw [if_pos q2]
      obtain ⟨D, d1, d2, d3⟩ := AL_fail (c := 2) A (p := tP b k i) (by decide)
      refine ⟨_, ?_, RB_bad (cc := X.2.1) (wd := nI (wdOf s)) (v1 := nI (nmT b k i)) (v2 := nI 0) FL_FT D d1 d2⟩
      rcases hs with ⟨rfl, rfl, rfl⟩ | ⟨rfl, rfl, rfl⟩
      · show avA _ 79 0 [.ref 72, .int (nI 16)] [] _ _
        refine a_iload_1 rfl rfl ?_
        refine a_tabIn rfl (by decide) rfl rfl ?_
        refine a_aload_0 rfl rfl ?_
        refine a_getr rfl rfl rfl (fun _ _ _ => rfl) rfl ?_
        refine a_iload_1 rfl rfl ?_
        refine a_aload_0 rfl rfl ?_
        refine a_iconst (v := (nI 0)) rfl rfl rfl ?_
        refine a_bipush (v := (nI 29)) rfl rfl rfl ?_
        refine a_virtI rfl rfl (e_numF A q1 q2 (by decide) (by decide)) (Nat.le_of_ble_eq_true rfl) ⟨rfl, rfl, rfl, rfl⟩ rfl rfl rfl (Nat.le_of_ble_eq_true rfl) rfl rfl ?_
        refine a_iconst (v := (nI 0)) rfl rfl rfl ?_
        refine a_virt0 rfl rfl (e_addCl hx X.2.1 hc (fl_3.trans cn) _ _ _) (Nat.le_of_ble_eq_true rfl) ⟨rfl, rfl, rfl, rfl⟩ rfl rfl rfl (Nat.le_of_ble_eq_true rfl) (congrArg Prod.fst (tx_t hx)) rfl ?_
        refine a_goto rfl rfl ?_
        exact a_vret rfl rfl
      · show avA _ 79 0 [.ref 72, .int (nI 0)] [] _ _
        refine a_iload_1 rfl rfl ?_
        refine a_tabIn rfl (by decide) rfl rfl ?_
        refine a_aload_0 rfl rfl ?_
        refine a_getr rfl rfl rfl (fun _ _ _ => rfl) rfl ?_
        refine a_iload_1 rfl rfl ?_
        refine a_aload_0 rfl rfl ?_
        refine a_iconst (v := (nI 1)) rfl rfl rfl ?_
        refine a_bipush (v := (nI 60)) rfl rfl rfl ?_
        refine a_virtI rfl rfl (e_numF A q1 q2 (by decide) (by decide)) (Nat.le_of_ble_eq_true rfl) ⟨rfl, rfl, rfl, rfl⟩ rfl rfl rfl (Nat.le_of_ble_eq_true rfl) rfl rfl ?_
        refine a_iconst (v := (nI 0)) rfl rfl rfl ?_
        refine a_virt0 rfl rfl (e_addCl hx X.2.1 hc (fl_3.trans cn) _ _ _) (Nat.le_of_ble_eq_true rfl) ⟨rfl, rfl, rfl, rfl⟩ rfl rfl rfl (Nat.le_of_ble_eq_true rfl) (congrArg Prod.fst (tx_t hx)) rfl ?_
        refine a_goto rfl rfl ?_
        exact a_vret rfl rfl
    · rw [if_neg q2]
      have hin := CA_lt A.1 (by omega)
      have H1 := CX_adv H hin
      refine ⟨clPu x X.2.1 (nI (wdOf s)) (nI (nmT b k i)) (nI 0) (adv h i), ?_, FT_trans (FT_put (by omega)) FT_cl, len, CX_deed H1 (by omega) (by omega) hc⟩
      rcases hs with ⟨rfl, rfl, rfl⟩ | ⟨rfl, rfl, rfl⟩
      · show avA _ 79 0 [.ref 72, .int (nI 16)] [] _ _
        refine a_iload_1 rfl rfl ?_
        refine a_tabIn rfl (by decide) rfl rfl ?_
        refine a_aload_0 rfl rfl ?_
        refine a_getr rfl rfl rfl (fun _ _ _ => rfl) rfl ?_
        refine a_iload_1 rfl rfl ?_
        refine a_aload_0 rfl rfl ?_
        refine a_iconst (v := (nI 0)) rfl rfl rfl ?_
        refine a_bipush (v := (nI 29)) rfl rfl rfl ?_
        refine a_virtI rfl rfl (e_numT A q1 (by omega) (by omega) (by decide)) (Nat.le_of_ble_eq_true rfl) ⟨rfl, rfl, rfl, rfl⟩ rfl rfl rfl (Nat.le_of_ble_eq_true rfl) rfl rfl ?_
        refine a_iconst (v := (nI 0)) rfl rfl rfl ?_
        refine a_virt0 rfl rfl (e_addCl hx X.2.1 hc ((put_o (by omega)).trans cn) _ _ _) (Nat.le_of_ble_eq_true rfl) ⟨rfl, rfl, rfl, rfl⟩ rfl rfl rfl (Nat.le_of_ble_eq_true rfl) (congrArg Prod.fst (tx_t hx)) rfl ?_
        refine a_goto rfl rfl ?_
        exact a_vret rfl rfl
      · show avA _ 79 0 [.ref 72, .int (nI 0)] [] _ _
        refine a_iload_1 rfl rfl ?_
        refine a_tabIn rfl (by decide) rfl rfl ?_
        refine a_aload_0 rfl rfl ?_
        refine a_getr rfl rfl rfl (fun _ _ _ => rfl) rfl ?_
        refine a_iload_1 rfl rfl ?_
        refine a_aload_0 rfl rfl ?_
        refine a_iconst (v := (nI 1)) rfl rfl rfl ?_
        refine a_bipush (v := (nI 60)) rfl rfl rfl ?_
        refine a_virtI rfl rfl (e_numT A q1 (by omega) (by omega) (by decide)) (Nat.le_of_ble_eq_true rfl) ⟨rfl, rfl, rfl, rfl⟩ rfl rfl rfl (Nat.le_of_ble_eq_true rfl) rfl rfl ?_
        refine a_iconst (v := (nI 0)) rfl rfl rfl ?_
        refine a_virt0 rfl rfl (e_addCl hx X.2.1 hc ((put_o (by omega)).trans cn) _ _ _) (Nat.le_of_ble_eq_true rfl) ⟨rfl, rfl, rfl, rfl⟩ rfl rfl rfl (Nat.le_of_ble_eq_true rfl) (congrArg Prod.fst (tx_t hx)) rfl ?_
        refine a_goto rfl rfl ?_
        exact a_vret rfl rfl
  · rw [if_neg q1]
    obtain ⟨D, d1, d2, d3⟩ := AL_fail (c := 1) A (p := tP b k i) (by decide)
    refine ⟨_, ?_, RB_bad (cc := X.2.1) (wd := nI (wdOf s)) (v1 := nI (nmT b k i)) (v2 := nI 0) FL_FT D d1 d2⟩
    rcases hs with ⟨rfl, rfl, rfl⟩ | ⟨rfl, rfl, rfl⟩
    · show avA _ 79 0 [.ref 72, .int (nI 16)] [] _ _
      refine a_iload_1 rfl rfl ?_
      refine a_tabIn rfl (by decide) rfl rfl ?_
      refine a_aload_0 rfl rfl ?_
      refine a_getr rfl rfl rfl (fun _ _ _ => rfl) rfl ?_
      refine a_iload_1 rfl rfl ?_
      refine a_aload_0 rfl rfl ?_
      refine a_iconst (v := (nI 0)) rfl rfl rfl ?_
      refine a_bipush (v := (nI 29)) rfl rfl rfl ?_
      refine a_virtI rfl rfl (e_numN A q1) (Nat.le_of_ble_eq_true rfl) ⟨rfl, rfl, rfl, rfl⟩ rfl rfl rfl (Nat.le_of_ble_eq_true rfl) rfl rfl ?_
      refine a_iconst (v := (nI 0)) rfl rfl rfl ?_
      refine a_virt0 rfl rfl (e_addCl hx X.2.1 hc (fl_3.trans cn) _ _ _) (Nat.le_of_ble_eq_true rfl) ⟨rfl, rfl, rfl, rfl⟩ rfl rfl rfl (Nat.le_of_ble_eq_true rfl) (congrArg Prod.fst (tx_t hx)) rfl ?_
      refine a_goto rfl rfl ?_
      exact a_vret rfl rfl
    · show avA _ 79 0 [.ref 72, .int (nI 0)] [] _ _
      refine a_iload_1 rfl rfl ?_
      refine a_tabIn rfl (by decide) rfl rfl ?_
      refine a_aload_0 rfl rfl ?_
      refine a_getr rfl rfl rfl (fun _ _ _ => rfl) rfl ?_
      refine a_iload_1 rfl rfl ?_
      refine a_aload_0 rfl rfl ?_
      refine a_iconst (v := (nI 1)) rfl rfl rfl ?_
      refine a_bipush (v := (nI 60)) rfl rfl rfl ?_
      refine a_virtI rfl rfl (e_numN A q1) (Nat.le_of_ble_eq_true rfl) ⟨rfl, rfl, rfl, rfl⟩ rfl rfl rfl (Nat.le_of_ble_eq_true rfl) rfl rfl ?_
      refine a_iconst (v := (nI 0)) rfl rfl rfl ?_
      refine a_virt0 rfl rfl (e_addCl hx X.2.1 hc (fl_3.trans cn) _ _ _) (Nat.le_of_ble_eq_true rfl) ⟨rfl, rfl, rfl, rfl⟩ rfl rfl rfl (Nat.le_of_ble_eq_true rfl) (congrArg Prod.fst (tx_t hx)) rfl ?_
      refine a_goto rfl rfl ?_
      exact a_vret rfl rfl
theorem e_deed (hx : x < t) {X : Txt} {i len s : Nat} {h : Nat → Nat → Int32} (H : CX b k n x X i len h) (hs : 3 ≤ s ∧ s < 10) (hc : X.2.1 < 24) : ∃ h', avE 5 79 [.ref 72, .int (nI (wdOf s))] (sD L t lt x sw h gl) (none, sD L t lt x sw h' gl) ∧ RB b k n x X s h (dbO (cdT b k) (nmT b k) s i) h' := by
  have cn : h (98 + 7 * x) 3 = nI X.2.1 := H.2.2.2.2.2.2.2.2.1.1
  have h7 : s = 3 ∨ s = 4 ∨ s = 5 ∨ s = 8 ∨ s = 6 ∨ s = 9 ∨ s = 7 := by omega
  rcases h7 with rfl | rfl | rfl | rfl | rfl | rfl | rfl
  · obtain ⟨h', C, R⟩ := e_pair (L := L) (lt := lt) (sw := sw) (gl := gl) (s := 3) (m1 := 29) (wd := 4) (m2 := 3) hx H (by omega) hc (by decide) (by decide) (by decide)
    refine ⟨h', ?_, R⟩
    show avA _ 79 0 [.ref 72, .int (nI 14)] [] _ _
    refine a_iload_1 rfl rfl ?_
    refine a_tabIn rfl (by decide) rfl rfl ?_
    refine a_aload_0 rfl rfl ?_
    refine a_iload_1 rfl rfl ?_
    refine a_bipush (v := (nI 29)) rfl rfl rfl ?_
    refine a_iconst (v := (nI 4)) rfl rfl rfl ?_
    refine a_iconst (v := (nI 3)) rfl rfl rfl ?_
    refine a_virt0 rfl rfl (C) (Nat.le_of_ble_eq_true rfl) ⟨rfl, rfl, rfl, rfl⟩ rfl rfl rfl (Nat.le_of_ble_eq_true rfl) rfl rfl ?_
    refine a_goto rfl rfl ?_
    exact a_vret rfl rfl
  · obtain ⟨h', C, R⟩ := e_pair (L := L) (lt := lt) (sw := sw) (gl := gl) (s := 4) (m1 := 9) (wd := 19) (m2 := 29) hx H (by omega) hc (by decide) (by decide) (by decide)
    refine ⟨h', ?_, R⟩
    show avA _ 79 0 [.ref 72, .int (nI 5)] [] _ _
    refine a_iload_1 rfl rfl ?_
    refine a_tabIn rfl (by decide) rfl rfl ?_
    refine a_aload_0 rfl rfl ?_
    refine a_iload_1 rfl rfl ?_
    refine a_bipush (v := (nI 9)) rfl rfl rfl ?_
    refine a_bipush (v := (nI 19)) rfl rfl rfl ?_
    refine a_bipush (v := (nI 29)) rfl rfl rfl ?_
    refine a_virt0 rfl rfl (C) (Nat.le_of_ble_eq_true rfl) ⟨rfl, rfl, rfl, rfl⟩ rfl rfl rfl (Nat.le_of_ble_eq_true rfl) rfl rfl ?_
    refine a_goto rfl rfl ?_
    exact a_vret rfl rfl
  · obtain ⟨h', C, R⟩ := e_pair (L := L) (lt := lt) (sw := sw) (gl := gl) (s := 5) (m1 := 29) (wd := 9) (m2 := 9) hx H (by omega) hc (by decide) (by decide) (by decide)
    refine ⟨h', ?_, R⟩
    show avA _ 79 0 [.ref 72, .int (nI 15)] [] _ _
    refine a_iload_1 rfl rfl ?_
    refine a_tabIn rfl (by decide) rfl rfl ?_
    refine a_aload_0 rfl rfl ?_
    refine a_iload_1 rfl rfl ?_
    refine a_bipush (v := (nI 29)) rfl rfl rfl ?_
    refine a_bipush (v := (nI 9)) rfl rfl rfl ?_
    refine a_bipush (v := (nI 9)) rfl rfl rfl ?_
    refine a_virt0 rfl rfl (C) (Nat.le_of_ble_eq_true rfl) ⟨rfl, rfl, rfl, rfl⟩ rfl rfl rfl (Nat.le_of_ble_eq_true rfl) rfl rfl ?_
    refine a_goto rfl rfl ?_
    exact a_vret rfl rfl
  · obtain ⟨h', C, R⟩ := e_pair (L := L) (lt := lt) (sw := sw) (gl := gl) (s := 8) (m1 := 4) (wd := 20) (m2 := 29) hx H (by omega) hc (by decide) (by decide) (by decide)
    refine ⟨h', ?_, R⟩
    show avA _ 79 0 [.ref 72, .int (nI 18)] [] _ _
    refine a_iload_1 rfl rfl ?_
    refine a_tabIn rfl (by decide) rfl rfl ?_
    refine a_aload_0 rfl rfl ?_
    refine a_iload_1 rfl rfl ?_
    refine a_iconst (v := (nI 4)) rfl rfl rfl ?_
    refine a_bipush (v := (nI 20)) rfl rfl rfl ?_
    refine a_bipush (v := (nI 29)) rfl rfl rfl ?_
    refine a_virt0 rfl rfl (C) (Nat.le_of_ble_eq_true rfl) ⟨rfl, rfl, rfl, rfl⟩ rfl rfl rfl (Nat.le_of_ble_eq_true rfl) rfl rfl ?_
    refine a_goto rfl rfl ?_
    exact a_vret rfl rfl
  · exact e_fig hx H (Or.inl ⟨rfl, rfl, rfl⟩) hc
  · exact e_fig hx H (Or.inr ⟨rfl, rfl, rfl⟩) hc
  · refine ⟨clPu x X.2.1 (nI (wdOf 7)) (nI 0) (nI 0) h, ?_, FT_cl, len, CX_deed H (by omega) (by omega) hc⟩
    show avA _ 79 0 [.ref 72, .int (nI 17)] [] _ _
    refine a_iload_1 rfl rfl ?_
    refine a_tabIn rfl (by decide) rfl rfl ?_
    refine a_aload_0 rfl rfl ?_
    refine a_getr rfl rfl rfl (fun _ _ _ => rfl) rfl ?_
    refine a_iload_1 rfl rfl ?_
    refine a_iconst (v := (nI 0)) rfl rfl rfl ?_
    refine a_iconst (v := (nI 0)) rfl rfl rfl ?_
    refine a_virt0 rfl rfl (e_addCl hx X.2.1 hc cn _ _ _) (Nat.le_of_ble_eq_true rfl) ⟨rfl, rfl, rfl, rfl⟩ rfl rfl rfl (Nat.le_of_ble_eq_true rfl) (congrArg Prod.fst (tx_t hx)) rfl ?_
    exact a_vret rfl rfl
def RLw (b : Nat → Nat) (k n x : Nat) (X : Txt) (s : Nat) (h' : Nat → Nat → Int32) : Rs → Prop
  | .inl (f, j) => ∃ len', CX b k n x (addX X s 0 0 (some f)) j len' h'
  | .inr (c, j) => DD b k n x h' ∧ h' 72 3 = nI c ∧ h' 72 4 = nI (tP b k j)
theorem e_law (hx : x < t) {X : Txt} {i len s m : Nat} {h : Nat → Nat → Int32} {r : Rs} (H : CX b k n x X i len h) (hs : s < 3) (hc : X.2.1 < 24) (hp : pd s (cdT b k) (nmT b k) m 3 (fun _ => 0) 0 i = some r) : ∃ h', avE 80 63 [.ref 72, .int (nI (wdOf s))] (sD L t lt x sw h gl) (none, sD L t lt x sw h' gl) ∧ FT x h h' ∧ RLw b k n x X s h' r := by
  obtain ⟨a1, ⟨law, l1, l2⟩, a2, a3, a4, a5, a6, a7, a8, a9⟩ := id H
  have l300 : len ≤ 300 := by have := a1.2.2.1; have := a1.2.2.2; have := a1.1.2.2.2.1; omega
  have wd : wdOf s = s + 11 := by have q : s = 0 ∨ s = 1 ∨ s = 2 := by omega
                                  rcases q with rfl | rfl | rfl <;> rfl
  have F1 : FT x h (mvPut (mvPut h 72 2 (nI s)) (98 + 7 * x + 5) s (nI len)) := FT_trans (FT_law hs) (FT_put (by omega))
  have A1 : AL b k n x s i len (mvPut (mvPut h 72 2 (nI s)) (98 + 7 * x + 5) s (nI len)) := ⟨CA_ft a1 F1 ((put_o (by omega)).trans (put_o (by omega))), (put_o (by omega)).trans put_eq, hs, (put_o (by omega)).trans ((put_nj (by omega)).trans a2), (put_o (by omega)).trans ((put_o (by omega)).trans a4), a5, ((put_ne (by omega)).trans (put_ne (by omega))).trans a6⟩
  have cn : h (98 + 7 * x) 3 = nI X.2.1 := a8.1
  obtain ⟨h2, ⟨F2, R2⟩, C2⟩ := (p_all (L := L) (lt := lt) (sw := sw) (gl := gl) (b := b) (k := k) (n := n) (law := s) hx m).2.2.1.1 _ 0 i len _ r hp (by decide) A1
  have cn2 : h2 (98 + 7 * x) 3 = nI X.2.1 := (F2.2.2.2 3 (by omega)).trans ((put_o (by omega)).trans ((put_o (by omega)).trans cn))
  have e72 : h2 72 2 = nI s := (F2.2.2.1 2 (by omega) (by omega)).trans ((put_o (by omega)).trans put_eq)
  have ex : ∃ len2, h2 (98 + 7 * x) 5 = nI len2 ∧ len2 ≤ 300 := by
    match r, R2 with
    | .inl (f, j), ⟨len2, A2, _⟩ => exact ⟨len2, A2.2.2.2.2.1, by have := A2.1.2.2.1; have := A2.1.2.2.2; have := A2.1.1.2.2.2.1; have := A2.2.2.2.2.2.1; omega⟩
    | .inr (c, j), ⟨⟨_, _, len2, g1, g2⟩, _⟩ => exact ⟨len2, g2, g1⟩
  obtain ⟨len2, el2, l2300⟩ := ex
  refine ⟨clPu x X.2.1 (nI (s + 11)) (nI 0) (nI 0) (mvPut h2 (98 + 7 * x + 6) s (nI len2)), ?_, FT_trans F1 (FT_trans (FR_FT F2) (FT_trans (FT_put (by omega)) FT_cl)), ?_⟩
  · rw [wd]
    show avA _ 63 0 [.ref 72, .int (nI (s + 11))] [] _ _
    refine a_aload_0 rfl rfl ?_
    refine a_iload_1 rfl rfl ?_
    refine a_bipush (v := (nI 11)) rfl rfl rfl ?_
    refine a_isubN rfl rfl (by omega) ?_
    refine a_as (y := nI (s)) (congrArg nI (by omega)) ?_
    refine a_puti rfl rfl rfl rfl ?_
    refine a_aload_0 rfl rfl ?_
    refine a_getr rfl rfl rfl (fun _ _ _ => rfl) rfl ?_
    refine a_getr rfl rfl (congrArg Prod.fst (tx_t hx)) (fun _ _ _ => rfl) (tx_r6 hx) ?_
    refine a_aload_0 rfl rfl ?_
    refine a_geti rfl rfl rfl (fun _ _ _ => rfl) ?_
    refine a_as (y := nI (s)) put_eq ?_
    refine a_aload_0 rfl rfl ?_
    refine a_getr rfl rfl rfl (fun _ _ _ => rfl) rfl ?_
    refine a_geti rfl rfl (congrArg Prod.fst (tx_t hx)) (fun _ _ _ => rfl) ?_
    refine a_as (y := nI (len)) ((put_o (by omega)).trans a4) ?_
    refine a_iast rfl rfl (tx_5 hx) rfl (by omega) (by decide) ?_
    refine a_aload_0 rfl rfl ?_
    refine a_iconst (v := (nI 0)) rfl rfl rfl ?_
    refine a_virt0 rfl rfl (C2) (by omega) ⟨rfl, rfl, rfl, rfl⟩ rfl rfl rfl (Nat.le_of_ble_eq_true rfl) rfl rfl ?_
    refine a_aload_0 rfl rfl ?_
    refine a_getr rfl rfl rfl (fun _ _ _ => rfl) rfl ?_
    refine a_getr rfl rfl (congrArg Prod.fst (tx_t hx)) (fun _ _ _ => rfl) (tx_r7 hx) ?_
    refine a_aload_0 rfl rfl ?_
    refine a_geti rfl rfl rfl (fun _ _ _ => rfl) ?_
    refine a_as (y := nI (s)) e72 ?_
    refine a_aload_0 rfl rfl ?_
    refine a_getr rfl rfl rfl (fun _ _ _ => rfl) rfl ?_
    refine a_geti rfl rfl (congrArg Prod.fst (tx_t hx)) (fun _ _ _ => rfl) ?_
    refine a_as (y := nI (len2)) el2 ?_
    refine a_iast rfl rfl (tx_6 hx) rfl (by omega) (by decide) ?_
    refine a_aload_0 rfl rfl ?_
    refine a_getr rfl rfl rfl (fun _ _ _ => rfl) rfl ?_
    refine a_iload_1 rfl rfl ?_
    refine a_iconst (v := (nI 0)) rfl rfl rfl ?_
    refine a_iconst (v := (nI 0)) rfl rfl rfl ?_
    refine a_virt0 rfl rfl (e_addCl hx X.2.1 hc ((put_o (by omega)).trans cn2) _ _ _) (by omega) ⟨rfl, rfl, rfl, rfl⟩ rfl rfl rfl (Nat.le_of_ble_eq_true rfl) (congrArg Prod.fst (tx_t hx)) rfl ?_
    exact a_vret rfl rfl
  · match r, R2 with
    | .inr (c, j), ⟨D2, d3, d4⟩ =>
      have D3 : DD b k n x (mvPut h2 (98 + 7 * x + 6) s (nI len2)) := by
        obtain ⟨⟨i', g1⟩, ⟨c', g2, g3⟩, lenx, g4, g5⟩ := D2
        exact ⟨⟨i', CA_ft g1 (FT_put (x := x) (by omega)) (put_o (by omega))⟩, ⟨c', (put_o (by omega)).trans g2, g3⟩, lenx, g4, (put_o (by omega)).trans g5⟩
      obtain ⟨D4, e4⟩ := DD_cl (c := X.2.1) (wd := nI (s + 11)) (v1 := nI 0) (v2 := nI 0) D3
      exact ⟨D4, by rw [e4]; exact (put_o (by omega)).trans d3, by rw [e4]; exact (put_o (by omega)).trans d4⟩
    | .inl (f, j), ⟨len3, A2, b3, b4, b5, b6, b7, b8, b9, _⟩ =>
      have e23 : len3 = len2 := (nI_eq (by have := A2.1.2.2.1; have := A2.1.2.2.2; have := A2.1.1.2.2.2.1; have := A2.2.2.2.2.2.1; omega) (by omega)).mp (A2.2.2.2.2.1.symm.trans el2)
      subst e23
      have F3 : FT x h2 (mvPut h2 (98 + 7 * x + 6) s (nI len3)) := FT_put (by omega)
      have C3 : clsC X.2 (mvPut h2 (98 + 7 * x + 6) s (nI len3)) (98 + 7 * x) := by
        have e : ∀ p q, (p = 98 + 7 * x ∧ q ≠ 5) ∨ p = 98 + 7 * x + 1 ∨ p = 98 + 7 * x + 2 ∨ p = 98 + 7 * x + 3 → (mvPut h2 (98 + 7 * x + 6) s (nI len3)) p q = h p q := fun p q hq => by
          rw [put_o (by omega)]
          rcases hq with ⟨rfl, hq⟩ | hq
          · rw [F2.2.2.2 q hq]; exact (put_o (by omega)).trans (put_o (by omega))
          · rw [F2.1 p (by omega) (by omega) (by omega) (by omega)]; exact (put_o (by omega)).trans (put_o (by omega))
        refine ⟨(e _ _ (by omega)).trans a8.1, fun q hq => ?_⟩
        rw [e _ _ (by omega), e _ _ (by omega), e _ _ (by omega)]
        exact a8.2 q hq
      obtain ⟨o1, o2⟩ := cls_add (fo := some f) (s := s) (a := 0) (c2 := 0) (by omega) (by omega) hc a7 C3
      rw [wd] at o2
      have e1 : (clPu x X.2.1 (nI (s + 11)) (nI 0) (nI 0) (mvPut h2 (98 + 7 * x + 6) s (nI len3))) 1 = h2 1 := (funext fun q => cl_o (by omega)).trans (put_ne (by omega))
      refine ⟨len3, CA_ft A2.1 (FT_trans F3 FT_cl) ((cl_o (by omega)).trans (put_o (by omega))), ⟨s, hs, (cl_o (by omega)).trans ((put_o (by omega)).trans e72)⟩, (cl_o (by omega)).trans ((put_o (by omega)).trans A2.2.2.2.1), (cl_o (by omega)).trans ((put_o (by omega)).trans (b6.trans ((put_o (by omega)).trans ((put_nj (by omega)).trans a3)))), (cl_o (by omega)).trans ((put_o (by omega)).trans el2), A2.2.2.2.2.2.1, e1.trans A2.2.2.2.2.2.2, o1, o2, fun q hq => ?_⟩
      show lawC _ (98 + 7 * x) q (if q = s then some f else X.1 q)
      by_cases e : q = s
      · subst e
        rw [if_pos rfl]
        refine ⟨b9, len, len3, len3, ?_, (cl_o (by omega)).trans put_eq, (cl_o (by omega)).trans ((put_o (by omega)).trans el2), b3, Nat.le_refl _, l2300, Sg1_mono (Sg1_cg b8 (fun p _ _ => (cl_o (by omega)).trans (put_o (by omega)))) (by omega)⟩
        exact (cl_o (by omega)).trans ((put_o (by omega)).trans ((congrFun (F2.1 _ (by omega) (by omega) (by omega) (by omega)) q).trans put_eq))
      · rw [if_neg e]
        refine lawC_up (a9 q hq) a4 ((cl_o (by omega)).trans ((put_o (by omega)).trans el2)) b3 l2300 ?_ ?_ (fun p hp => (cl_o (by omega)).trans ((put_o (by omega)).trans ((b7 p hp).trans ((put_o (by omega)).trans (put_o (by omega))))))
        · exact (cl_o (by omega)).trans ((put_o (by omega)).trans ((congrFun (F2.1 _ (by omega) (by omega) (by omega) (by omega)) q).trans ((put_nj e).trans (put_o (by omega)))))
        · exact (cl_o (by omega)).trans ((put_nj e).trans ((congrFun (F2.1 _ (by omega) (by omega) (by omega) (by omega)) q).trans ((put_o (by omega)).trans (put_o (by omega)))))
end CE
