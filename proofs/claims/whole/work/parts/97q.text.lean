/-! THE CALL text: the reference; the class, once its text is there -/
section TQ
variable {L t : Nat} {lt rt rp : Option Nat} {sw : Bool} {b : Nat → Nat} {k n x : Nat}
/-- what the call leaves behind in the reference -/
def RT3 (b : Nat → Nat) (k x : Nat) (h : Nat → Nat → Int32) (r : Rc) (v : Int32) (h' : Nat → Nat → Int32) : Prop := (∀ o, o ≠ 81 → o ≠ 82 → o ≠ 84 → o ≠ 86 → h' o = h o) ∧ (∀ j, j < 4 ∨ 19 < j → h' 81 j = h 81 j) ∧ (∀ q, q < 681 * x ∨ 681 * x + 681 ≤ q → h' 84 q = h 84 q) ∧ h' 81 4 = nI 0 ∧ match r with
  | .inl (X, j) => v = nI x ∧ h' 82 = va_up (h 82) 1 (nI (x + 1)) ∧ h' 81 5 = nI 0 ∧ h' 81 6 = -1 ∧ ∀ (hc : Nat → Nat → Int32) (o : Nat), txC X hc o → txF X (h' 84) x
  | .inr (c, j) => v = -1 ∧ h' 82 = h 82 ∧ h' 81 5 = nI c ∧ h' 81 6 = nI (tP b k j) ∧ 1 ≤ c
theorem r_text {h : Nat → Nat → Int32} {gl : Nat → Nat → Int64} {m q : Nat} {r : Rc} (H : RP b k h) (N : NT b k n) (ha : h 82 1 = nI x) (hx : x < 4) (hp : txO (cdT b k) (nmT b k) m q X0 0 = some r) : ∃ v h' gl', avE 12 196 [.ref 81] (sX L t lt rt rp sw h gl) (some (.int v), sX L t lt rt rp sw h' gl') ∧ RT3 b k x h r v h' := by
  obtain ⟨v, h1, gl1, C, F, R⟩ := r_readText (L := L) (t := t) (lt := lt) (rt := rt) (rp := rp) (sw := sw) (gl := gl) H N ha hx hp
  have fo : ∀ c p o, o ≠ 81 → (mvPut (mvPut (mvPut h1 81 5 c) 81 6 p) 81 4 (nI 0)) o = h1 o := fun c p o g => (put_ne g).trans ((put_ne g).trans (put_ne g))
  have f1 : ∀ c p j, j ≠ 4 → j ≠ 5 → j ≠ 6 → (mvPut (mvPut (mvPut h1 81 5 c) 81 6 p) 81 4 (nI 0)) 81 j = h1 81 j := fun c p j g1 g2 g3 => (put_nj g1).trans ((put_nj g3).trans (put_nj g2))
  match r, R with
  | .inr (c, j), ⟨e0, g1, g2, T⟩ =>
    subst e0
    have p8 : h1 81 8 = nI (tP b k j) := T.2.2.1.2.1
    refine ⟨-1, mvPut (mvPut (mvPut h1 81 5 (nI c)) 81 6 (nI (tP b k j))) 81 4 (nI 0), gl1, ?_, fun o g1 g2 g3 g4 => ?_, fun j hj => ?_, fun q hq => ?_, put_eq, rfl, ?_, ?_, ?_, g1⟩
    · show avA _ 196 0 [.ref 81] [] _ _
      refine a_aload_0 rfl rfl ?_
      refine a_getr rfl rfl rfl (fun _ _ _ => rfl) rfl ?_
      refine a_iconst (v := (nI 1)) rfl rfl rfl ?_
      refine a_iald rfl rfl (Or.inl rfl) rfl (by omega) (by decide) ?_
      refine a_as (y := nI (x)) ha ?_
      refine a_iconst (v := (nI 4)) rfl rfl rfl ?_
      refine a_cmpN_ne rfl rfl rfl (by omega) (by omega) (fun _ => ?_) (fun c_7 => False.elim (by omega))
      refine a_aload_0 rfl rfl ?_
      refine a_aload_0 rfl rfl ?_
      refine a_virtI rfl rfl (C) (Nat.le_of_ble_eq_true rfl) ⟨rfl, rfl, rfl, rfl⟩ rfl rfl rfl (Nat.le_of_ble_eq_true rfl) rfl rfl ?_
      refine a_puti rfl rfl rfl rfl ?_
      refine a_aload_0 rfl rfl ?_
      refine a_aload_0 rfl rfl ?_
      refine a_geti rfl rfl rfl (fun _ _ _ => rfl) ?_
      refine a_as (y := nI (c)) put_eq ?_
      refine a_ifN_ne rfl rfl rfl (by omega) (fun _ => ?_) (fun c_25 => False.elim (by omega))
      refine a_aload_0 rfl rfl ?_
      refine a_geti rfl rfl rfl (fun _ _ _ => rfl) ?_
      refine a_as (y := nI (tP b k j)) ((put_nj (by omega)).trans p8) ?_
      refine a_puti rfl rfl rfl rfl ?_
      refine a_aload_0 rfl rfl ?_
      refine a_iconst (v := (nI 0)) rfl rfl rfl ?_
      refine a_puti rfl rfl rfl rfl ?_
      refine a_aload_0 rfl rfl ?_
      refine a_geti rfl rfl rfl (fun _ _ _ => rfl) ?_
      refine a_as (y := nI (c)) ((put_nj (by omega)).trans ((put_nj (by omega)).trans put_eq)) ?_
      refine a_ifN_eq rfl rfl rfl (by omega) (fun c_48 => False.elim (by omega)) (fun _ => ?_)
      refine a_iconst (v := (-1)) rfl rfl rfl ?_
      exact a_iret rfl rfl
    · rw [fo _ _ o g1, F.1 o g1 g3 g4]
    · rw [f1 _ _ j (by omega) (by omega) (by omega), F.2.1 j (by omega)]
    · rw [fo _ _ 84 (by omega), F.2.2 q hq]
    · rw [fo _ _ 82 (by omega), F.1 82 (by omega) (by omega) (by omega)]
    · exact (put_nj (by omega)).trans ((put_nj (by omega)).trans put_eq)
    · exact (put_nj (by omega)).trans put_eq
  | .inl (X, j), ⟨e0, w, RX⟩ =>
    subst e0
    have e82 : h1 82 = h 82 := F.1 82 (by omega) (by omega) (by omega)
    have hb := RX.1.2.1.2.2
    have ij := RX.1.2.2.2
    have wl := RX.2.2.2.2.1
    refine ⟨nI x, mvPut (mvPut (mvPut (mvPut h1 81 5 (nI 0)) 81 6 (-1)) 81 4 (nI 0)) 82 1 (nI (x + 1)), gl1, ?_, fun o g1 g2 g3 g4 => ?_, fun j hj => ?_, fun q hq => ?_, (put_o (by omega)).trans put_eq, rfl, ?_, ?_, ?_, fun hc o TC => ?_⟩
    · show avA _ 196 0 [.ref 81] [] _ _
      refine a_aload_0 rfl rfl ?_
      refine a_getr rfl rfl rfl (fun _ _ _ => rfl) rfl ?_
      refine a_iconst (v := (nI 1)) rfl rfl rfl ?_
      refine a_iald rfl rfl (Or.inl rfl) rfl (by omega) (by decide) ?_
      refine a_as (y := nI (x)) ha ?_
      refine a_iconst (v := (nI 4)) rfl rfl rfl ?_
      refine a_cmpN_ne rfl rfl rfl (by omega) (by omega) (fun _ => ?_) (fun c_7 => False.elim (by omega))
      refine a_aload_0 rfl rfl ?_
      refine a_aload_0 rfl rfl ?_
      refine a_virtI rfl rfl (C) (Nat.le_of_ble_eq_true rfl) ⟨rfl, rfl, rfl, rfl⟩ rfl rfl rfl (Nat.le_of_ble_eq_true rfl) rfl rfl ?_
      refine a_puti rfl rfl rfl rfl ?_
      refine a_aload_0 rfl rfl ?_
      refine a_aload_0 rfl rfl ?_
      refine a_geti rfl rfl rfl (fun _ _ _ => rfl) ?_
      refine a_as (y := nI (0)) put_eq ?_
      refine a_ifN_ne rfl rfl rfl (by omega) (fun c_25 => False.elim (by omega)) (fun _ => ?_)
      refine a_iconst (v := (-1)) rfl rfl rfl ?_
      refine a_goto rfl rfl ?_
      refine a_puti rfl rfl rfl rfl ?_
      refine a_aload_0 rfl rfl ?_
      refine a_iconst (v := (nI 0)) rfl rfl rfl ?_
      refine a_puti rfl rfl rfl rfl ?_
      refine a_aload_0 rfl rfl ?_
      refine a_geti rfl rfl rfl (fun _ _ _ => rfl) ?_
      refine a_as (y := nI (0)) ((put_nj (by omega)).trans ((put_nj (by omega)).trans put_eq)) ?_
      refine a_ifN_eq rfl rfl rfl (by omega) (fun _ => ?_) (fun c_48 => False.elim (by omega))
      refine a_aload_0 rfl rfl ?_
      refine a_getr rfl rfl rfl (fun _ _ _ => rfl) rfl ?_
      refine a_iconst (v := (nI 1)) rfl rfl rfl ?_
      refine a_dup2 rfl rfl rfl ?_
      refine a_iald rfl rfl (Or.inl rfl) rfl (by omega) (by decide) ?_
      refine a_as (y := nI (x)) ((congrFun (fo _ _ 82 (by omega)) 1).trans ((congrFun e82 1).trans ha)) ?_
      refine a_iconst (v := (nI 1)) rfl rfl rfl ?_
      refine a_iaddN rfl rfl ?_
      refine a_iast rfl rfl rfl rfl (by omega) (by decide) ?_
      refine a_aload_0 rfl rfl ?_
      refine a_getr rfl rfl rfl (fun _ _ _ => rfl) rfl ?_
      refine a_iconst (v := (nI 1)) rfl rfl rfl ?_
      refine a_iald rfl rfl (Or.inl rfl) rfl (by omega) (by decide) ?_
      refine a_as (y := nI (x + 1)) put_eq ?_
      refine a_iconst (v := (nI 1)) rfl rfl rfl ?_
      refine a_isubN rfl rfl (by omega) ?_
      refine a_as (y := nI (x)) (congrArg nI (by omega)) ?_
      exact a_iret rfl rfl
    · rw [put_ne g2, fo _ _ o g1, F.1 o g1 g3 g4]
    · rw [put_o (by omega), f1 _ _ j (by omega) (by omega) (by omega), F.2.1 j (by omega)]
    · rw [put_o (by omega), fo _ _ 84 (by omega), F.2.2 q hq]
    · unfold mvPut
      rw [va_up_self, va_up_ne _ _ (by omega), va_up_ne _ _ (by omega), va_up_ne _ _ (by omega), e82]
    · exact (put_o (by omega)).trans ((put_nj (by omega)).trans ((put_nj (by omega)).trans put_eq))
    · exact (put_o (by omega)).trans ((put_nj (by omega)).trans put_eq)
    · rw [show (mvPut (mvPut (mvPut (mvPut h1 81 5 (nI 0)) 81 6 (-1)) 81 4 (nI 0)) 82 1 (nI (x + 1))) 84 = h1 84 from (put_ne (by omega)).trans (fo _ _ 84 (by omega))]
      exact RT_txF RX TC (by omega)
theorem r_text4 {h : Nat → Nat → Int32} {gl : Nat → Nat → Int64} (ha : h 82 1 = nI 4) : avE 12 196 [.ref 81] (sX L t lt rt rp sw h gl) (some (.int (-1)), sX L t lt rt rp sw h gl) := by
  show avA _ 196 0 [.ref 81] [] _ _
  refine a_aload_0 rfl rfl ?_
  refine a_getr rfl rfl rfl (fun _ _ _ => rfl) rfl ?_
  refine a_iconst (v := (nI 1)) rfl rfl rfl ?_
  refine a_iald rfl rfl (Or.inl rfl) rfl (by omega) (by decide) ?_
  refine a_as (y := nI (4)) ha ?_
  refine a_iconst (v := (nI 4)) rfl rfl rfl ?_
  refine a_cmpN_ne rfl rfl rfl (by omega) (by omega) (fun c_7 => False.elim (by omega)) (fun _ => ?_)
  refine a_iconst (v := (-1)) rfl rfl rfl ?_
  exact a_iret rfl rfl
/-- what the call leaves behind in the class -/
def CT3 (b : Nat → Nat) (k x : Nat) (h : Nat → Nat → Int32) (r : Rc) (v : Int32) (h' : Nat → Nat → Int32) : Prop := (∀ o, o ≠ 8 → o ≠ 11 → o ≠ 68 → o ≠ 70 → o ≠ 72 → (o < 98 + 7 * x ∨ 98 + 7 * x + 7 ≤ o) → h' o = h o) ∧ (∀ j, j ≠ 1 → j ≠ 3 → j ≠ 4 → j ≠ 5 → h' 68 j = h 68 j) ∧ h' 68 1 = nI 0 ∧ lw3 h' ∧ match r with
  | .inl (X, j) => v = nI x ∧ h' 8 = va_up (h 8) 9 (h 8 9 + nI 1) ∧ h' 11 = va_up (h 11) 12 (nI (x + 1)) ∧ h' 72 3 = nI 0 ∧ h' 72 4 = -1 ∧ txC X h' (98 + 7 * x)
  | .inr (c, j) => v = -1 ∧ h' 8 = h 8 ∧ h' 11 = h 11 ∧ h' 72 3 = nI c ∧ h' 72 4 = nI (tP b k j)
theorem l_ctext {h : Nat → Nat → Int32} {gl : Nat → Nat → Int64} (hx : x < t) (h11 : h 11 12 = nI x) (hx4 : x < 4) (K : KI h) (T : TP b k h) (hl : lw3 h) : ∃ n r v h', NT b k n ∧ txO (cdT b k) (nmT b k) (10 * n + 20) (n + 1) X0 0 = some r ∧ avA 83 36 41 [.ref 7, .int (nI x)] [] (sX L t lt rt rp sw h gl) (some (.int v), sD L t lt x sw h' gl) ∧ CT3 b k x h r v h' := by
  obtain ⟨n, r, h1, N, hr, C, F, R, l3⟩ := e_parse (L := L) (lt := lt) (rt := rt) (rp := rp) (sw := sw) (gl := gl) hx K T hl
  have er : lyR lt rt rp sw t 67 x = some (98 + 7 * x) := by
    show (bif Nat.blt x t then some (98 + 7 * x) else none) = some (98 + 7 * x)
    rw [bltT hx]
    rfl
  have e11 : h1 11 = h 11 := F.1 11 (by omega) (by omega) (by omega) (by omega)
  have e8 : h1 8 = h 8 := F.1 8 (by omega) (by omega) (by omega) (by omega)
  obtain ⟨R0, R⟩ := R
  match r, R, hr with
  | .inr (c, j), ⟨D, d3, d4⟩, hr =>
    obtain ⟨_, ⟨c', g1, g2, g3⟩, _⟩ := id D
    refine ⟨n, _, -1, mvPut h1 68 1 (nI 0), N, hr, ?_, fun o a1 a2 a3 a4 a5 a6 => ?_, fun j a1 a2 a3 a4 => ?_, put_eq, ?_, rfl, ?_, ?_, ?_, ?_⟩
    · refine a_aload_0 rfl rfl ?_
      refine a_getr rfl rfl rfl (fun _ _ _ => rfl) rfl ?_
      refine a_aload_0 rfl rfl ?_
      refine a_getr rfl rfl rfl (fun _ _ _ => rfl) rfl ?_
      refine a_iload_1 rfl rfl ?_
      refine a_aald rfl rfl rfl rfl (by omega) (by decide) ?_
      refine a_is er ?_
      refine a_aload_0 rfl rfl ?_
      refine a_getr rfl rfl rfl (fun _ _ _ => rfl) rfl ?_
      refine a_virt0 rfl rfl (C) (Nat.le_of_ble_eq_true rfl) ⟨rfl, rfl, rfl, rfl⟩ rfl rfl rfl (Nat.le_of_ble_eq_true rfl) rfl rfl ?_
      refine a_aload_0 rfl rfl ?_
      refine a_getr rfl rfl rfl (fun _ _ _ => rfl) rfl ?_
      refine a_iconst (v := (nI 0)) rfl rfl rfl ?_
      refine a_puti rfl rfl rfl rfl ?_
      refine a_aload_0 rfl rfl ?_
      refine a_getr rfl rfl rfl (fun _ _ _ => rfl) rfl ?_
      refine a_geti rfl rfl rfl (fun _ _ _ => rfl) ?_
      refine a_as (y := nI (c')) ((put_o (by omega)).trans g1) ?_
      refine a_ifN_eq rfl rfl rfl (by omega) (fun c_73 => False.elim (by omega)) (fun _ => ?_)
      refine a_iconst (v := (-1)) rfl rfl rfl ?_
      exact a_iret rfl rfl
    · rw [put_ne a3, F.1 o a3 a4 a5 a6]
    · rw [put_nj a1, F.2 j a2 a3 a4]
    · obtain ⟨l, l1, l2⟩ := l3; exact ⟨l, l1, (put_o (by omega)).trans l2⟩
    · rw [put_ne (by omega), e8]
    · rw [put_ne (by omega), e11]
    · exact (put_o (by omega)).trans d3
    · exact (put_o (by omega)).trans d4
  | .inl (X, j), ⟨len, X3⟩, hr =>
    obtain ⟨a1, a2, a3, a4, a5, a6, a7, a8, a9, a10⟩ := X3
    have fx : ∀ p, p ≠ 8 → p ≠ 11 → p ≠ 68 → (mvPut (mvPut (mvPut h1 68 1 (nI 0)) 8 9 ((mvPut h1 68 1 (nI 0)) 8 9 + nI 1)) 11 12 (nI (x + 1))) p = h1 p := fun p g1 g2 g3 => (put_ne g2).trans ((put_ne g1).trans (put_ne g3))
    refine ⟨n, _, nI x, mvPut (mvPut (mvPut h1 68 1 (nI 0)) 8 9 ((mvPut h1 68 1 (nI 0)) 8 9 + nI 1)) 11 12 (nI (x + 1)), N, hr, ?_, fun o b1 b2 b3 b4 b5 b6 => ?_, fun j b1 b2 b3 b4 => ?_, ?_, ?_, rfl, ?_, ?_, ?_, ?_, ?_⟩
    · refine a_aload_0 rfl rfl ?_
      refine a_getr rfl rfl rfl (fun _ _ _ => rfl) rfl ?_
      refine a_aload_0 rfl rfl ?_
      refine a_getr rfl rfl rfl (fun _ _ _ => rfl) rfl ?_
      refine a_iload_1 rfl rfl ?_
      refine a_aald rfl rfl rfl rfl (by omega) (by decide) ?_
      refine a_is er ?_
      refine a_aload_0 rfl rfl ?_
      refine a_getr rfl rfl rfl (fun _ _ _ => rfl) rfl ?_
      refine a_virt0 rfl rfl (C) (Nat.le_of_ble_eq_true rfl) ⟨rfl, rfl, rfl, rfl⟩ rfl rfl rfl (Nat.le_of_ble_eq_true rfl) rfl rfl ?_
      refine a_aload_0 rfl rfl ?_
      refine a_getr rfl rfl rfl (fun _ _ _ => rfl) rfl ?_
      refine a_iconst (v := (nI 0)) rfl rfl rfl ?_
      refine a_puti rfl rfl rfl rfl ?_
      refine a_aload_0 rfl rfl ?_
      refine a_getr rfl rfl rfl (fun _ _ _ => rfl) rfl ?_
      refine a_geti rfl rfl rfl (fun _ _ _ => rfl) ?_
      refine a_as (y := nI (0)) ((put_o (by omega)).trans a3) ?_
      refine a_ifN_eq rfl rfl rfl (by omega) (fun _ => ?_) (fun c_73 => False.elim (by omega))
      refine a_aload_0 rfl rfl ?_
      refine a_getr rfl rfl rfl (fun _ _ _ => rfl) rfl ?_
      refine a_virt0 rfl rfl (e_forget) (Nat.le_of_ble_eq_true rfl) ⟨rfl, rfl, rfl, rfl⟩ rfl rfl rfl (Nat.le_of_ble_eq_true rfl) rfl rfl ?_
      refine a_aload_0 rfl rfl ?_
      refine a_getr rfl rfl rfl (fun _ _ _ => rfl) rfl ?_
      refine a_dup rfl rfl rfl ?_
      refine a_geti rfl rfl rfl (fun _ _ _ => rfl) ?_
      refine a_as (y := nI (x)) ((put_o (by omega)).trans ((put_o (by omega)).trans ((congrFun e11 12).trans h11))) ?_
      refine a_iconst (v := (nI 1)) rfl rfl rfl ?_
      refine a_iaddN rfl rfl ?_
      refine a_puti rfl rfl rfl rfl ?_
      refine a_iload_1 rfl rfl ?_
      exact a_iret rfl rfl
    · rw [fx o b1 b2 b3, F.1 o b3 b4 b5 b6]
    · rw [put_o (by omega), put_o (by omega), put_nj b1, F.2 j b2 b3 b4]
    · exact (put_o (by omega)).trans ((put_o (by omega)).trans put_eq)
    · obtain ⟨l, l1, l2⟩ := l3; exact ⟨l, l1, (congrFun (fx 72 (by omega) (by omega) (by omega)) 2).trans l2⟩
    · rw [put_ne (by omega), put_o (by omega)]
      unfold mvPut
      rw [va_up_self, va_up_ne _ _ (by omega), e8]
    · unfold mvPut
      rw [va_up_self, va_up_ne _ _ (by omega), va_up_ne _ _ (by omega), e11]
    · exact (congrFun (fx 72 (by omega) (by omega) (by omega)) 3).trans a3
    · exact (congrFun (fx 72 (by omega) (by omega) (by omega)) 4).trans a4
    · exact txC_fr (fun p hp => fx p (by omega) (by omega) (by omega)) (by omega) ⟨a8, a9, a10⟩
end TQ
