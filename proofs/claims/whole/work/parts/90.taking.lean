/-! THE READER: faults, taking tokens -/
/-- the reader of text x stands at token i, no fault so far; len words of code -/
def AL (b : Nat → Nat) (k n x law i len : Nat) (h : Nat → Nat → Int32) : Prop := CA b k n i h ∧ h 72 2 = nI law ∧ law < 3 ∧ h 72 3 = nI 0 ∧ h (98 + 7 * x) 5 = nI len ∧ len ≤ i ∧ h 1 = (fun j => msNames.getD j 0)
/-- a fault has been -/
def DD (b : Nat → Nat) (k n x : Nat) (h : Nat → Nat → Int32) : Prop := (∃ i, CA b k n i h) ∧ (∃ c, h 72 3 = nI c ∧ 1 ≤ c ∧ c ≤ 6) ∧ ∃ len, len ≤ 300 ∧ h (98 + 7 * x) 5 = nI len
abbrev flS (h : Nat → Nat → Int32) (c p : Nat) : Nat → Nat → Int32 := mvPut (mvPut h 72 3 (nI c)) 72 4 (nI p)
/-- what the reader changes -/
def FR (x : Nat) (h h' : Nat → Nat → Int32) : Prop := (∀ o, o ≠ 68 → o ≠ 72 → o ≠ 98 + 7 * x → o ≠ 98 + 7 * x + 4 → h' o = h o) ∧ (∀ j, j ≠ 4 → h' 68 j = h 68 j) ∧ (∀ j, j ≠ 3 → j ≠ 4 → h' 72 j = h 72 j) ∧ ∀ j, j ≠ 5 → h' (98 + 7 * x) j = h (98 + 7 * x) j
theorem FR_refl {x : Nat} {h : Nat → Nat → Int32} : FR x h h := ⟨fun _ _ _ _ _ => rfl, fun _ _ => rfl, fun _ _ _ => rfl, fun _ _ => rfl⟩
theorem FR_trans {x : Nat} {h h' h'' : Nat → Nat → Int32} (H : FR x h h') (G : FR x h' h'') : FR x h h'' := ⟨fun o a b c d => (G.1 o a b c d).trans (H.1 o a b c d), fun j a => (G.2.1 j a).trans (H.2.1 j a), fun j a b => (G.2.2.1 j a b).trans (H.2.2.1 j a b), fun j a => (G.2.2.2 j a).trans (H.2.2.2 j a)⟩
theorem put_ne {h : Nat → Nat → Int32} {o j : Nat} {v : Int32} {p : Nat} (hp : p ≠ o) : mvPut h o j v p = h p := by
  funext q
  rw [put_at, if_neg (by omega)]
theorem put_o {h : Nat → Nat → Int32} {o j : Nat} {v : Int32} {p q : Nat} (hp : p ≠ o) : mvPut h o j v p q = h p q := by
  rw [put_at, if_neg (by omega)]
theorem put_nj {h : Nat → Nat → Int32} {o j : Nat} {v : Int32} {p q : Nat} (hp : q ≠ j) : mvPut h o j v p q = h p q := by
  rw [put_at, if_neg (by omega)]
theorem put_eq {h : Nat → Nat → Int32} {o j : Nat} {v : Int32} : mvPut h o j v o j = v := by
  rw [put_at, if_pos ⟨rfl, rfl⟩]
theorem FR_put {x o j : Nat} {h h' : Nat → Nat → Int32} {v : Int32} (H : FR x h h') (ho : (o = 68 ∧ j = 4) ∨ (o = 72 ∧ (j = 3 ∨ j = 4)) ∨ (o = 98 + 7 * x ∧ j = 5) ∨ o = 98 + 7 * x + 4) : FR x h (mvPut h' o j v) := by
  refine FR_trans H ⟨fun p a b c d => put_ne (by omega), fun q a => ?_, fun q a b => ?_, fun q a => ?_⟩
  · rw [put_at, if_neg (by omega)]
  · rw [put_at, if_neg (by omega)]
  · rw [put_at, if_neg (by omega)]
theorem CA_fr {b : Nat → Nat} {k n i x : Nat} {h h' : Nat → Nat → Int32} (H : CA b k n i h) (F : FR x h h') (e : h' 68 4 = h 68 4) : CA b k n i h' := by
  obtain ⟨⟨a1, a2, a3, a4, a5⟩, a6, a7, a8⟩ := H
  have e70 := F.1 70 (by omega) (by omega) (by omega) (by omega)
  refine ⟨⟨?_, a2, a3, a4, ?_⟩, e.trans a6, a7, a8⟩
  · rw [e70]; exact a1
  · rw [F.2.1 3 (by omega)]; exact a5
theorem CA_lt {b : Nat → Nat} {k n i : Nat} {h : Nat → Nat → Int32} (H : CA b k n i h) (hc : cdT b k i ≠ 46) : i < n := by
  obtain ⟨⟨_, a2, _, _, _⟩, _, a7, _⟩ := H
  by_cases e : i = n
  · subst e
    exfalso
    apply hc
    unfold cdT
    rw [a2]
    unfold tk
    rw [if_pos (Nat.le_refl _)]
  · omega
section RT
variable {L t : Nat} {lt : Option Nat} {sw : Bool} {gl : Nat → Nat → Int64} {b : Nat → Nat} {k n x law i len : Nat} {h : Nat → Nat → Int32}
abbrev sD (L t : Nat) (lt : Option Nat) (x : Nat) (sw : Bool) (h : Nat → Nat → Int32) (gl : Nat → Nat → Int64) : mvSt := sX L t lt (some (98 + 7 * x)) (some 68) sw h gl
theorem AL_adv (H : AL b k n x law i len h) (hi : i < n) : AL b k n x law (i + 1) len (mvPut h 68 4 (nI (i + 1))) := by
  obtain ⟨a1, a2, a3, a4, a5, a6, a7⟩ := H
  refine ⟨CA_adv a1 hi, ?_, a3, ?_, ?_, by omega, ?_⟩
  · exact (put_o (by omega)).trans a2
  · exact (put_o (by omega)).trans a4
  · exact (put_o (by omega)).trans a5
  · exact (put_ne (by omega)).trans a7
theorem AL_fail (H : AL b k n x law i len h) {c p : Nat} (hc : 1 ≤ c ∧ c ≤ 6) : DD b k n x (flS h c p) ∧ (flS h c p) 72 3 = nI c ∧ (flS h c p) 72 4 = nI p ∧ FR x h (flS h c p) := by
  obtain ⟨a1, a2, a3, a4, a5, a6, a7⟩ := H
  have f : FR x h (flS h c p) := FR_put (FR_put FR_refl (by omega)) (by omega)
  have e3 : (flS h c p) 72 3 = nI c := (put_nj (by omega)).trans put_eq
  have := a1.2.2.1; have := a1.2.2.2; have := a1.1.2.2.2.1
  refine ⟨⟨⟨i, CA_fr a1 f ?_⟩, ⟨c, e3, hc⟩, len, by omega, ?_⟩, e3, put_eq, f⟩
  · exact (put_o (by omega)).trans (put_o (by omega))
  · exact (put_o (by omega)).trans ((put_o (by omega)).trans a5)
theorem e_fail (H : AL b k n x law i len h) (c : Nat) : avE 1 58 [.ref 72, .int (nI c)] (sD L t lt x sw h gl) (none, sD L t lt x sw (flS h c (tP b k i)) gl) := by
  have H1 : CA b k n i (mvPut h 72 3 (nI c)) := CA_fr (x := x) H.1 (FR_put FR_refl (by omega)) (put_o (by omega))
  show avA _ 58 0 [.ref 72, .int (nI (c))] [] _ _
  refine a_aload_0 rfl rfl ?_
  refine a_geti rfl rfl rfl (fun _ _ _ => rfl) ?_
  refine a_as (y := nI (0)) H.2.2.2.1 ?_
  refine a_ifN_ne rfl rfl rfl (by omega) (fun c_4 => False.elim (by omega)) (fun _ => ?_)
  refine a_aload_0 rfl rfl ?_
  refine a_iload_1 rfl rfl ?_
  refine a_puti rfl rfl rfl rfl ?_
  refine a_aload_0 rfl rfl ?_
  refine a_aload_0 rfl rfl ?_
  refine a_getr rfl rfl rfl (fun _ _ _ => rfl) rfl ?_
  refine a_virtI rfl rfl (e_place H1) (Nat.le_of_ble_eq_true rfl) ⟨rfl, rfl, rfl, rfl⟩ rfl rfl rfl (Nat.le_of_ble_eq_true rfl) rfl rfl ?_
  refine a_puti rfl rfl rfl rfl ?_
  exact a_vret rfl rfl
theorem e_failD (H : DD b k n x h) (c : Nat) : avE 1 58 [.ref 72, .int (nI c)] (sD L t lt x sw h gl) (none, sD L t lt x sw h gl) := by
  obtain ⟨_, ⟨c', e, h1, h2⟩, _⟩ := H
  show avA _ 58 0 [.ref 72, .int (nI (c))] [] _ _
  refine a_aload_0 rfl rfl ?_
  refine a_geti rfl rfl rfl (fun _ _ _ => rfl) ?_
  refine a_as (y := nI (c')) e ?_
  refine a_ifN_ne rfl rfl rfl (by omega) (fun _ => ?_) (fun c_4 => False.elim (by omega))
  exact a_vret rfl rfl
theorem e_takeT (H : AL b k n x law i len h) {c : Nat} (hc : cdT b k i = c) (hn : c ≠ 46) : avE 2 61 [.ref 72, .int (nI c)] (sD L t lt x sw h gl) (none, sD L t lt x sw (mvPut h 68 4 (nI (i + 1))) gl) := by
  have l3 := (CA_at H.1).2.2.2
  show avA _ 61 0 [.ref 72, .int (nI (c))] [] _ _
  refine a_aload_0 rfl rfl ?_
  refine a_getr rfl rfl rfl (fun _ _ _ => rfl) rfl ?_
  refine a_virtI rfl rfl (e_token H.1) (Nat.le_of_ble_eq_true rfl) ⟨rfl, rfl, rfl, rfl⟩ rfl rfl rfl (Nat.le_of_ble_eq_true rfl) rfl rfl ?_
  refine a_iload_1 rfl rfl ?_
  refine a_cmpN_eq rfl rfl rfl (by omega) (by omega) (fun _ => ?_) (fun c_8 => False.elim (by omega))
  refine a_aload_0 rfl rfl ?_
  refine a_geti rfl rfl rfl (fun _ _ _ => rfl) ?_
  refine a_as (y := nI (0)) H.2.2.2.1 ?_
  refine a_ifN_ne rfl rfl rfl (by omega) (fun c_20 => False.elim (by omega)) (fun _ => ?_)
  refine a_aload_0 rfl rfl ?_
  refine a_getr rfl rfl rfl (fun _ _ _ => rfl) rfl ?_
  refine a_virt0 rfl rfl (e_advance H.1 (CA_lt H.1 (by omega))) (Nat.le_of_ble_eq_true rfl) ⟨rfl, rfl, rfl, rfl⟩ rfl rfl rfl (Nat.le_of_ble_eq_true rfl) rfl rfl ?_
  exact a_vret rfl rfl
theorem e_takeF (H : AL b k n x law i len h) {c : Nat} (hc : cdT b k i ≠ c) (hn : c < 64) : avE 2 61 [.ref 72, .int (nI c)] (sD L t lt x sw h gl) (none, sD L t lt x sw (flS h 1 (tP b k i)) gl) := by
  have l3 := (CA_at H.1).2.2.2
  show avA _ 61 0 [.ref 72, .int (nI (c))] [] _ _
  refine a_aload_0 rfl rfl ?_
  refine a_getr rfl rfl rfl (fun _ _ _ => rfl) rfl ?_
  refine a_virtI rfl rfl (e_token H.1) (Nat.le_of_ble_eq_true rfl) ⟨rfl, rfl, rfl, rfl⟩ rfl rfl rfl (Nat.le_of_ble_eq_true rfl) rfl rfl ?_
  refine a_iload_1 rfl rfl ?_
  refine a_cmpN_eq rfl rfl rfl (by omega) (by omega) (fun c_8 => False.elim (by omega)) (fun _ => ?_)
  refine a_aload_0 rfl rfl ?_
  refine a_iconst (v := (nI 1)) rfl rfl rfl ?_
  refine a_virt0 rfl rfl (e_fail H 1) (Nat.le_of_ble_eq_true rfl) ⟨rfl, rfl, rfl, rfl⟩ rfl rfl rfl (Nat.le_of_ble_eq_true rfl) rfl rfl ?_
  refine a_aload_0 rfl rfl ?_
  refine a_geti rfl rfl rfl (fun _ _ _ => rfl) ?_
  refine a_as (y := nI (1)) (AL_fail H (p := tP b k i) (by decide)).2.1 ?_
  refine a_ifN_ne rfl rfl rfl (by omega) (fun _ => ?_) (fun c_20 => False.elim (by omega))
  exact a_vret rfl rfl
theorem e_takeD (H : DD b k n x h) (c : Nat) (hc : c < 64) : avE 2 61 [.ref 72, .int (nI c)] (sD L t lt x sw h gl) (none, sD L t lt x sw h gl) := by
  obtain ⟨⟨i, hi⟩, ⟨c', e, h1, h2⟩, _⟩ := id H
  have l3 := (CA_at hi).2.2.2
  show avA _ 61 0 [.ref 72, .int (nI (c))] [] _ _
  refine a_aload_0 rfl rfl ?_
  refine a_getr rfl rfl rfl (fun _ _ _ => rfl) rfl ?_
  refine a_virtI rfl rfl (e_token hi) (Nat.le_of_ble_eq_true rfl) ⟨rfl, rfl, rfl, rfl⟩ rfl rfl rfl (Nat.le_of_ble_eq_true rfl) rfl rfl ?_
  refine a_iload_1 rfl rfl ?_
  refine a_cmpN_eq rfl rfl rfl (by omega) (by omega) (fun c_8 => ?_) (fun c_8 => ?_)
  · refine a_aload_0 rfl rfl ?_
    refine a_geti rfl rfl rfl (fun _ _ _ => rfl) ?_
    refine a_as (y := nI (c')) e ?_
    refine a_ifN_ne rfl rfl rfl (by omega) (fun _ => ?_) (fun c_20 => False.elim (by omega))
    exact a_vret rfl rfl
  · refine a_aload_0 rfl rfl ?_
    refine a_iconst (v := (nI 1)) rfl rfl rfl ?_
    refine a_virt0 rfl rfl (e_failD H 1) (Nat.le_of_ble_eq_true rfl) ⟨rfl, rfl, rfl, rfl⟩ rfl rfl rfl (Nat.le_of_ble_eq_true rfl) rfl rfl ?_
    refine a_aload_0 rfl rfl ?_
    refine a_geti rfl rfl rfl (fun _ _ _ => rfl) ?_
    refine a_as (y := nI (c')) e ?_
    refine a_ifN_ne rfl rfl rfl (by omega) (fun _ => ?_) (fun c_20 => False.elim (by omega))
    exact a_vret rfl rfl
theorem e_numT (H : AL b k n x law i len h) {lo hi : Nat} (hc : cdT b k i = 45) (h1 : lo ≤ nmT b k i) (h2 : nmT b k i ≤ hi) (h3 : hi < 10000) : avE 3 67 [.ref 72, .int (nI lo), .int (nI hi)] (sD L t lt x sw h gl) (some (.int (nI (nmT b k i))), sD L t lt x sw (mvPut h 68 4 (nI (i + 1))) gl) := by
  have l3 := (CA_at H.1).2.2
  show avA _ 67 0 [.ref 72, .int (nI (lo)), .int (nI (hi)), mvU] [] _ _
  refine a_aload_0 rfl rfl ?_
  refine a_getr rfl rfl rfl (fun _ _ _ => rfl) rfl ?_
  refine a_virtI rfl rfl (e_number H.1) (Nat.le_of_ble_eq_true rfl) ⟨rfl, rfl, rfl, rfl⟩ rfl rfl rfl (Nat.le_of_ble_eq_true rfl) rfl rfl ?_
  refine a_istore_3 rfl rfl rfl ?_
  refine a_aload_0 rfl rfl ?_
  refine a_getr rfl rfl rfl (fun _ _ _ => rfl) rfl ?_
  refine a_virtI rfl rfl (e_token H.1) (Nat.le_of_ble_eq_true rfl) ⟨rfl, rfl, rfl, rfl⟩ rfl rfl rfl (Nat.le_of_ble_eq_true rfl) rfl rfl ?_
  refine a_bipush (v := (nI 45)) rfl rfl rfl ?_
  refine a_cmpN_ne rfl rfl rfl (by omega) (by omega) (fun c_17 => False.elim (by omega)) (fun _ => ?_)
  refine a_iload_3 rfl rfl ?_
  refine a_iload_1 rfl rfl ?_
  refine a_cmpN_lt rfl rfl rfl (by omega) (by omega) (fun c_22 => False.elim (by omega)) (fun _ => ?_)
  refine a_iload_3 rfl rfl ?_
  refine a_iload_2 rfl rfl ?_
  refine a_cmpN_le rfl rfl rfl (by omega) (by omega) (fun _ => ?_) (fun c_27 => False.elim (by omega))
  refine a_aload_0 rfl rfl ?_
  refine a_bipush (v := (nI 45)) rfl rfl rfl ?_
  refine a_virt0 rfl rfl (e_takeT H hc (by omega)) (Nat.le_of_ble_eq_true rfl) ⟨rfl, rfl, rfl, rfl⟩ rfl rfl rfl (Nat.le_of_ble_eq_true rfl) rfl rfl ?_
  refine a_iload_3 rfl rfl ?_
  exact a_iret rfl rfl
theorem e_numF (H : AL b k n x law i len h) {lo hi : Nat} (hc : cdT b k i = 45) (h1 : nmT b k i < lo ∨ hi < nmT b k i) (h3 : hi < 10000) (h4 : lo < 10000) : avE 3 67 [.ref 72, .int (nI lo), .int (nI hi)] (sD L t lt x sw h gl) (some (.int (nI (nmT b k i))), sD L t lt x sw (flS h 2 (tP b k i)) gl) := by
  have l3 := (CA_at H.1).2.2
  have D := (AL_fail (c := 2) H (p := tP b k i) (by decide)).1
  show avA _ 67 0 [.ref 72, .int (nI (lo)), .int (nI (hi)), mvU] [] _ _
  refine a_aload_0 rfl rfl ?_
  refine a_getr rfl rfl rfl (fun _ _ _ => rfl) rfl ?_
  refine a_virtI rfl rfl (e_number H.1) (Nat.le_of_ble_eq_true rfl) ⟨rfl, rfl, rfl, rfl⟩ rfl rfl rfl (Nat.le_of_ble_eq_true rfl) rfl rfl ?_
  refine a_istore_3 rfl rfl rfl ?_
  refine a_aload_0 rfl rfl ?_
  refine a_getr rfl rfl rfl (fun _ _ _ => rfl) rfl ?_
  refine a_virtI rfl rfl (e_token H.1) (Nat.le_of_ble_eq_true rfl) ⟨rfl, rfl, rfl, rfl⟩ rfl rfl rfl (Nat.le_of_ble_eq_true rfl) rfl rfl ?_
  refine a_bipush (v := (nI 45)) rfl rfl rfl ?_
  refine a_cmpN_ne rfl rfl rfl (by omega) (by omega) (fun c_17 => False.elim (by omega)) (fun _ => ?_)
  refine a_iload_3 rfl rfl ?_
  refine a_iload_1 rfl rfl ?_
  refine a_cmpN_lt rfl rfl rfl (by omega) (by omega) (fun c_22 => ?_) (fun c_22 => ?_)
  · refine a_aload_0 rfl rfl ?_
    refine a_iconst (v := (nI 2)) rfl rfl rfl ?_
    refine a_virt0 rfl rfl (e_fail H 2) (Nat.le_of_ble_eq_true rfl) ⟨rfl, rfl, rfl, rfl⟩ rfl rfl rfl (Nat.le_of_ble_eq_true rfl) rfl rfl ?_
    refine a_aload_0 rfl rfl ?_
    refine a_bipush (v := (nI 45)) rfl rfl rfl ?_
    refine a_virt0 rfl rfl (e_takeD D 45 (by decide)) (Nat.le_of_ble_eq_true rfl) ⟨rfl, rfl, rfl, rfl⟩ rfl rfl rfl (Nat.le_of_ble_eq_true rfl) rfl rfl ?_
    refine a_iload_3 rfl rfl ?_
    exact a_iret rfl rfl
  · refine a_iload_3 rfl rfl ?_
    refine a_iload_2 rfl rfl ?_
    refine a_cmpN_le rfl rfl rfl (by omega) (by omega) (fun c_27 => False.elim (by omega)) (fun _ => ?_)
    refine a_aload_0 rfl rfl ?_
    refine a_iconst (v := (nI 2)) rfl rfl rfl ?_
    refine a_virt0 rfl rfl (e_fail H 2) (Nat.le_of_ble_eq_true rfl) ⟨rfl, rfl, rfl, rfl⟩ rfl rfl rfl (Nat.le_of_ble_eq_true rfl) rfl rfl ?_
    refine a_aload_0 rfl rfl ?_
    refine a_bipush (v := (nI 45)) rfl rfl rfl ?_
    refine a_virt0 rfl rfl (e_takeD D 45 (by decide)) (Nat.le_of_ble_eq_true rfl) ⟨rfl, rfl, rfl, rfl⟩ rfl rfl rfl (Nat.le_of_ble_eq_true rfl) rfl rfl ?_
    refine a_iload_3 rfl rfl ?_
    exact a_iret rfl rfl
theorem e_numN (H : AL b k n x law i len h) {lo hi : Nat} (hc : cdT b k i ≠ 45) : avE 3 67 [.ref 72, .int (nI lo), .int (nI hi)] (sD L t lt x sw h gl) (some (.int (nI (nmT b k i))), sD L t lt x sw (flS h 1 (tP b k i)) gl) := by
  have l3 := (CA_at H.1).2.2
  show avA _ 67 0 [.ref 72, .int (nI (lo)), .int (nI (hi)), mvU] [] _ _
  refine a_aload_0 rfl rfl ?_
  refine a_getr rfl rfl rfl (fun _ _ _ => rfl) rfl ?_
  refine a_virtI rfl rfl (e_number H.1) (Nat.le_of_ble_eq_true rfl) ⟨rfl, rfl, rfl, rfl⟩ rfl rfl rfl (Nat.le_of_ble_eq_true rfl) rfl rfl ?_
  refine a_istore_3 rfl rfl rfl ?_
  refine a_aload_0 rfl rfl ?_
  refine a_getr rfl rfl rfl (fun _ _ _ => rfl) rfl ?_
  refine a_virtI rfl rfl (e_token H.1) (Nat.le_of_ble_eq_true rfl) ⟨rfl, rfl, rfl, rfl⟩ rfl rfl rfl (Nat.le_of_ble_eq_true rfl) rfl rfl ?_
  refine a_bipush (v := (nI 45)) rfl rfl rfl ?_
  refine a_cmpN_ne rfl rfl rfl (by omega) (by omega) (fun _ => ?_) (fun c_17 => False.elim (by omega))
  refine a_aload_0 rfl rfl ?_
  refine a_bipush (v := (nI 45)) rfl rfl rfl ?_
  refine a_virt0 rfl rfl (e_takeF H hc (by decide)) (Nat.le_of_ble_eq_true rfl) ⟨rfl, rfl, rfl, rfl⟩ rfl rfl rfl (Nat.le_of_ble_eq_true rfl) rfl rfl ?_
  refine a_iload_3 rfl rfl ?_
  exact a_iret rfl rfl
theorem e_numD (H : DD b k n x h) (lo hi : Nat) (h1 : lo < 10000) (h2 : hi < 10000) : ∃ v, v ≤ 10000 ∧ avE 3 67 [.ref 72, .int (nI lo), .int (nI hi)] (sD L t lt x sw h gl) (some (.int (nI v)), sD L t lt x sw h gl) := by
  obtain ⟨⟨i, hi'⟩, ⟨c', e, h1, h2⟩, _⟩ := id H
  have l3 := (CA_at hi').2.2
  refine ⟨nmT b k i, l3.1, ?_⟩
  show avA _ 67 0 [.ref 72, .int (nI (lo)), .int (nI (hi)), mvU] [] _ _
  refine a_aload_0 rfl rfl ?_
  refine a_getr rfl rfl rfl (fun _ _ _ => rfl) rfl ?_
  refine a_virtI rfl rfl (e_number hi') (Nat.le_of_ble_eq_true rfl) ⟨rfl, rfl, rfl, rfl⟩ rfl rfl rfl (Nat.le_of_ble_eq_true rfl) rfl rfl ?_
  refine a_istore_3 rfl rfl rfl ?_
  refine a_aload_0 rfl rfl ?_
  refine a_getr rfl rfl rfl (fun _ _ _ => rfl) rfl ?_
  refine a_virtI rfl rfl (e_token hi') (Nat.le_of_ble_eq_true rfl) ⟨rfl, rfl, rfl, rfl⟩ rfl rfl rfl (Nat.le_of_ble_eq_true rfl) rfl rfl ?_
  refine a_bipush (v := (nI 45)) rfl rfl rfl ?_
  refine a_cmpN_ne rfl rfl rfl (by omega) (by omega) (fun c_17 => ?_) (fun c_17 => ?_)
  · refine a_aload_0 rfl rfl ?_
    refine a_bipush (v := (nI 45)) rfl rfl rfl ?_
    refine a_virt0 rfl rfl (e_takeD H 45 (by decide)) (Nat.le_of_ble_eq_true rfl) ⟨rfl, rfl, rfl, rfl⟩ rfl rfl rfl (Nat.le_of_ble_eq_true rfl) rfl rfl ?_
    refine a_iload_3 rfl rfl ?_
    exact a_iret rfl rfl
  · refine a_iload_3 rfl rfl ?_
    refine a_iload_1 rfl rfl ?_
    refine a_cmpN_lt rfl rfl rfl (by omega) (by omega) (fun c_22 => ?_) (fun c_22 => ?_)
    · refine a_aload_0 rfl rfl ?_
      refine a_iconst (v := (nI 2)) rfl rfl rfl ?_
      refine a_virt0 rfl rfl (e_failD H 2) (Nat.le_of_ble_eq_true rfl) ⟨rfl, rfl, rfl, rfl⟩ rfl rfl rfl (Nat.le_of_ble_eq_true rfl) rfl rfl ?_
      refine a_aload_0 rfl rfl ?_
      refine a_bipush (v := (nI 45)) rfl rfl rfl ?_
      refine a_virt0 rfl rfl (e_takeD H 45 (by decide)) (Nat.le_of_ble_eq_true rfl) ⟨rfl, rfl, rfl, rfl⟩ rfl rfl rfl (Nat.le_of_ble_eq_true rfl) rfl rfl ?_
      refine a_iload_3 rfl rfl ?_
      exact a_iret rfl rfl
    · refine a_iload_3 rfl rfl ?_
      refine a_iload_2 rfl rfl ?_
      refine a_cmpN_le rfl rfl rfl (by omega) (by omega) (fun c_27 => ?_) (fun c_27 => ?_)
      · refine a_aload_0 rfl rfl ?_
        refine a_bipush (v := (nI 45)) rfl rfl rfl ?_
        refine a_virt0 rfl rfl (e_takeD H 45 (by decide)) (Nat.le_of_ble_eq_true rfl) ⟨rfl, rfl, rfl, rfl⟩ rfl rfl rfl (Nat.le_of_ble_eq_true rfl) rfl rfl ?_
        refine a_iload_3 rfl rfl ?_
        exact a_iret rfl rfl
      · refine a_aload_0 rfl rfl ?_
        refine a_iconst (v := (nI 2)) rfl rfl rfl ?_
        refine a_virt0 rfl rfl (e_failD H 2) (Nat.le_of_ble_eq_true rfl) ⟨rfl, rfl, rfl, rfl⟩ rfl rfl rfl (Nat.le_of_ble_eq_true rfl) rfl rfl ?_
        refine a_aload_0 rfl rfl ?_
        refine a_bipush (v := (nI 45)) rfl rfl rfl ?_
        refine a_virt0 rfl rfl (e_takeD H 45 (by decide)) (Nat.le_of_ble_eq_true rfl) ⟨rfl, rfl, rfl, rfl⟩ rfl rfl rfl (Nat.le_of_ble_eq_true rfl) rfl rfl ?_
        refine a_iload_3 rfl rfl ?_
        exact a_iret rfl rfl
/-! behind a fault nothing is read -/
theorem e_OneD (H : DD b k n x h) (o : Nat) : avE 3 66 [.ref 72, .int (nI o)] (sD L t lt x sw h gl) (none, sD L t lt x sw h gl) := by
  obtain ⟨⟨i, hi⟩, ⟨c', e, h1, h2⟩, _⟩ := id H
  show avA _ 66 0 [.ref 72, .int (nI (o)), mvU] [] _ _
  refine a_aload_0 rfl rfl ?_
  refine a_getr rfl rfl rfl (fun _ _ _ => rfl) rfl ?_
  refine a_virtI rfl rfl (e_token hi) (Nat.le_of_ble_eq_true rfl) ⟨rfl, rfl, rfl, rfl⟩ rfl rfl rfl (Nat.le_of_ble_eq_true rfl) rfl rfl ?_
  refine a_istore_2 rfl rfl rfl ?_
  refine a_aload_0 rfl rfl ?_
  refine a_geti rfl rfl rfl (fun _ _ _ => rfl) ?_
  refine a_as (y := nI (c')) e ?_
  refine a_ifN_eq rfl rfl rfl (by omega) (fun c_12 => False.elim (by omega)) (fun _ => ?_)
  exact a_vret rfl rfl
theorem e_ProductD (H : DD b k n x h) (o : Nat) : avE 4 65 [.ref 72, .int (nI o)] (sD L t lt x sw h gl) (none, sD L t lt x sw h gl) := by
  obtain ⟨⟨i, hi⟩, ⟨c', e, h1, h2⟩, _⟩ := id H
  show avA _ 65 0 [.ref 72, .int (nI (o)), mvU, mvU] [] _ _
  refine a_aload_0 rfl rfl ?_
  refine a_iload_1 rfl rfl ?_
  refine a_virt0 rfl rfl (e_OneD H o) (Nat.le_of_ble_eq_true rfl) ⟨rfl, rfl, rfl, rfl⟩ rfl rfl rfl (Nat.le_of_ble_eq_true rfl) rfl rfl ?_
  refine a_iconst (v := (nI 0)) rfl rfl rfl ?_
  refine a_istore_2 rfl rfl rfl ?_
  refine a_iload_2 rfl rfl ?_
  refine a_sipush (v := (nI 300)) rfl rfl rfl ?_
  refine a_cmpN_ge rfl rfl rfl (by omega) (by omega) (fun c_11 => absurd c_11 (by decide)) (fun _ => ?_)
  refine a_aload_0 rfl rfl ?_
  refine a_geti rfl rfl rfl (fun _ _ _ => rfl) ?_
  refine a_as (y := nI (c')) e ?_
  refine a_ifN_ne rfl rfl rfl (by omega) (fun _ => ?_) (fun c_18 => False.elim (by omega))
  exact a_vret rfl rfl
theorem e_SumD (H : DD b k n x h) (o : Nat) : avE 5 64 [.ref 72, .int (nI o)] (sD L t lt x sw h gl) (none, sD L t lt x sw h gl) := by
  obtain ⟨⟨i, hi⟩, ⟨c', e, h1, h2⟩, _⟩ := id H
  show avA _ 64 0 [.ref 72, .int (nI (o)), mvU, mvU] [] _ _
  refine a_aload_0 rfl rfl ?_
  refine a_iload_1 rfl rfl ?_
  refine a_virt0 rfl rfl (e_ProductD H o) (Nat.le_of_ble_eq_true rfl) ⟨rfl, rfl, rfl, rfl⟩ rfl rfl rfl (Nat.le_of_ble_eq_true rfl) rfl rfl ?_
  refine a_iconst (v := (nI 0)) rfl rfl rfl ?_
  refine a_istore_2 rfl rfl rfl ?_
  refine a_iload_2 rfl rfl ?_
  refine a_sipush (v := (nI 300)) rfl rfl rfl ?_
  refine a_cmpN_ge rfl rfl rfl (by omega) (by omega) (fun c_11 => absurd c_11 (by decide)) (fun _ => ?_)
  refine a_aload_0 rfl rfl ?_
  refine a_geti rfl rfl rfl (fun _ _ _ => rfl) ?_
  refine a_as (y := nI (c')) e ?_
  refine a_ifN_ne rfl rfl rfl (by omega) (fun _ => ?_) (fun c_18 => False.elim (by omega))
  exact a_vret rfl rfl
theorem e_askD (H : DD b k n x h) (o : Nat) : avE 3 75 [.ref 72, .int (nI o)] (sD L t lt x sw h gl) (none, sD L t lt x sw h gl) := by
  obtain ⟨⟨i, hi⟩, ⟨c', e, h1, h2⟩, _⟩ := id H
  show avA _ 75 0 [.ref 72, .int (nI (o)), mvU] [] _ _
  refine a_aload_0 rfl rfl ?_
  refine a_geti rfl rfl rfl (fun _ _ _ => rfl) ?_
  refine a_as (y := nI (c')) e ?_
  refine a_ifN_eq rfl rfl rfl (by omega) (fun c_4 => False.elim (by omega)) (fun _ => ?_)
  exact a_vret rfl rfl
theorem e_BothD (H : DD b k n x h) (o : Nat) : avE 4 74 [.ref 72, .int (nI o)] (sD L t lt x sw h gl) (none, sD L t lt x sw h gl) := by
  obtain ⟨⟨i, hi⟩, ⟨c', e, h1, h2⟩, _⟩ := id H
  show avA _ 74 0 [.ref 72, .int (nI (o)), mvU] [] _ _
  refine a_aload_0 rfl rfl ?_
  refine a_iload_1 rfl rfl ?_
  refine a_virt0 rfl rfl (e_askD H o) (Nat.le_of_ble_eq_true rfl) ⟨rfl, rfl, rfl, rfl⟩ rfl rfl rfl (Nat.le_of_ble_eq_true rfl) rfl rfl ?_
  refine a_iconst (v := (nI 0)) rfl rfl rfl ?_
  refine a_istore_2 rfl rfl rfl ?_
  refine a_iload_2 rfl rfl ?_
  refine a_sipush (v := (nI 300)) rfl rfl rfl ?_
  refine a_cmpN_ge rfl rfl rfl (by omega) (by omega) (fun c_11 => absurd c_11 (by decide)) (fun _ => ?_)
  refine a_aload_0 rfl rfl ?_
  refine a_geti rfl rfl rfl (fun _ _ _ => rfl) ?_
  refine a_as (y := nI (c')) e ?_
  refine a_ifN_ne rfl rfl rfl (by omega) (fun _ => ?_) (fun c_18 => False.elim (by omega))
  exact a_vret rfl rfl
theorem e_EitherD (H : DD b k n x h) (o : Nat) : avE 5 73 [.ref 72, .int (nI o)] (sD L t lt x sw h gl) (none, sD L t lt x sw h gl) := by
  obtain ⟨⟨i, hi⟩, ⟨c', e, h1, h2⟩, _⟩ := id H
  show avA _ 73 0 [.ref 72, .int (nI (o)), mvU] [] _ _
  refine a_aload_0 rfl rfl ?_
  refine a_iload_1 rfl rfl ?_
  refine a_virt0 rfl rfl (e_BothD H o) (Nat.le_of_ble_eq_true rfl) ⟨rfl, rfl, rfl, rfl⟩ rfl rfl rfl (Nat.le_of_ble_eq_true rfl) rfl rfl ?_
  refine a_iconst (v := (nI 0)) rfl rfl rfl ?_
  refine a_istore_2 rfl rfl rfl ?_
  refine a_iload_2 rfl rfl ?_
  refine a_sipush (v := (nI 300)) rfl rfl rfl ?_
  refine a_cmpN_ge rfl rfl rfl (by omega) (by omega) (fun c_11 => absurd c_11 (by decide)) (fun _ => ?_)
  refine a_aload_0 rfl rfl ?_
  refine a_geti rfl rfl rfl (fun _ _ _ => rfl) ?_
  refine a_as (y := nI (c')) e ?_
  refine a_ifN_ne rfl rfl rfl (by omega) (fun _ => ?_) (fun c_18 => False.elim (by omega))
  exact a_vret rfl rfl
/-- code behind a fault: whatever, but within its rows -/
def dAdd (x sg nu : Nat) (h : Nat → Nat → Int32) : Nat → Nat → Int32 := if (h (98 + 7 * x) 5).toInt < 300 then mvPut (mvPut h (98 + 7 * x + 4) (h (98 + 7 * x) 5).toInt.toNat (nI (nu * 64 + sg))) (98 + 7 * x) 5 (nI ((h (98 + 7 * x) 5).toInt.toNat + 1)) else h
theorem dAdd_FR (sg nu : Nat) : FR x h (dAdd x sg nu h) := by
  unfold dAdd
  split
  · exact FR_put (FR_put FR_refl (by omega)) (by omega)
  · exact FR_refl
theorem DD_of {h' : Nat → Nat → Int32} (H : DD b k n x h) (F : FR x h h') (e1 : h' 68 4 = h 68 4) (e2 : h' 72 3 = h 72 3) (e3 : ∃ len, len ≤ 300 ∧ h' (98 + 7 * x) 5 = nI len) : DD b k n x h' := by
  obtain ⟨⟨i, hi⟩, ⟨c', e, h1⟩, _⟩ := H
  exact ⟨⟨i, CA_fr hi F e1⟩, ⟨c', e2.trans e, h1⟩, e3⟩
theorem dAdd_72 (sg nu o : Nat) (ho : o < 98) : (dAdd x sg nu h) o = h o := by
  unfold dAdd
  split
  · exact (put_ne (by omega)).trans (put_ne (by omega))
  · rfl
theorem dAdd_DD (H : DD b k n x h) (sg nu : Nat) : DD b k n x (dAdd x sg nu h) := by
  refine DD_of H (dAdd_FR sg nu) (by rw [dAdd_72 _ _ _ (by omega)]) (by rw [dAdd_72 _ _ _ (by omega)]) ?_
  obtain ⟨_, _, len, l1, l2⟩ := H
  have e : (nI len).toInt = len := nI_toInt (by omega)
  unfold dAdd
  split
  · rename_i q
    rw [l2, e] at q
    refine ⟨len + 1, by omega, ?_⟩
    rw [put_eq, l2, e]
    rfl
  · exact ⟨len, l1, l2⟩
theorem e_addD (hx : x < t) (H : DD b k n x h) {sg nu : Nat} (h1 : nu ≤ 10000) (h2 : sg < 64) : avE 0 69 [.ref (98 + 7 * x), .int (nI sg), .int (nI nu)] (sD L t lt x sw h gl) (none, sD L t lt x sw (dAdd x sg nu h) gl) := by
  obtain ⟨_, _, len, l1, l2⟩ := H
  have e : (nI len).toInt = len := nI_toInt (by omega)
  unfold dAdd
  rw [l2, e]
  by_cases q : (len : Int) < 300
  · rw [if_pos q]
    exact e_addCode hx l2 (by omega) h1 h2
  · rw [if_neg q]
    have : len = 300 := by omega
    subst this
    exact e_addCodeF hx l2
end RT
