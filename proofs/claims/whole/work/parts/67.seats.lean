/-! SEATS: the class's whole, the reference row by row, both -/
abbrev sA (sw : Bool) : Nat := bif sw then 76 else 74
abbrev sB (sw : Bool) : Nat := bif sw then 77 else 75
section SF
variable {L t : Nat} {lt rt rp : Option Nat} {gl : Nat → Nat → Int64}
theorem l_seat (p : Nat → Bool) (m : Nat) : ∀ (c : Nat) (sw : Bool) (h : Nat → Nat → Int32) (y : Value), mvIsL y = false → c + m = 30 → rW (sA sw) (sB sw) (gS p c) h → ∃ h' sw', avA 2 153 17 [.ref 73, .int (bsI 30 p), .int (nI c), y] [] (sX L t lt rt rp sw h gl) (none, sX L t lt rt rp sw' h' gl) ∧ CF [73, 74, 75, 76, 77] h h' ∧ h' 73 4 = nI ((wP (gS p 30) 64).1 - 1) ∧ h' 73 5 = nI (wP (gS p 30) 64).2 := by
  have z0 := gS_z p 30
  have z1 : ∀ s, (gS p 30 s).1 ≤ 31 := fun s => Nat.le_trans (gS_1 p 30 s) (by omega)
  have z2 := gS_24 p (c := 30) (by omega)
  induction m with
  | zero =>
    intro c sw h y hy hc W
    have e : c = 30 := by omega
    subst e
    cases sw with
    | false =>
      obtain ⟨h', C, cf, q⟩ := e_collect_false (L := L) (t := t) (lt := lt) (rt := rt) (rp := rp) (gl := gl) _ z0 z1 z2 W
      refine ⟨h', false, ?_, CF_mono (by decide) cf, q⟩
      refine a_iload_2 rfl rfl ?_
      refine a_bipush (v := nI 30) rfl rfl rfl ?_
      refine a_cmpN_ge rfl rfl rfl (by omega) (by omega) (fun _ => ?_) (fun a => absurd a (by omega))
      refine a_aload_0 rfl rfl ?_
      refine a_virt0 rfl rfl C (Nat.le_of_ble_eq_true rfl) ⟨rfl, rfl, rfl, rfl⟩ rfl rfl rfl (Nat.le_of_ble_eq_true rfl) rfl rfl ?_
      exact a_vret rfl rfl
    | true =>
      obtain ⟨h', C, cf, q⟩ := e_collect_true (L := L) (t := t) (lt := lt) (rt := rt) (rp := rp) (gl := gl) _ z0 z1 z2 W
      refine ⟨h', true, ?_, CF_mono (by decide) cf, q⟩
      refine a_iload_2 rfl rfl ?_
      refine a_bipush (v := nI 30) rfl rfl rfl ?_
      refine a_cmpN_ge rfl rfl rfl (by omega) (by omega) (fun _ => ?_) (fun a => absurd a (by omega))
      refine a_aload_0 rfl rfl ?_
      refine a_virt0 rfl rfl C (Nat.le_of_ble_eq_true rfl) ⟨rfl, rfl, rfl, rfl⟩ rfl rfl rfl (Nat.le_of_ble_eq_true rfl) rfl rfl ?_
      exact a_vret rfl rfl
  | succ m ih =>
    intro c sw h y hy hc W
    cases sw with
    | false =>
      obtain ⟨h1, C1, c1, W1⟩ := e_clear_false (L := L) (t := t) (lt := lt) (rt := rt) (rp := rp) (gl := gl) (h := h)
      obtain ⟨h2, c2, W2⟩ : ∃ h2, CF [76, 77] h1 h2 ∧ rW 76 77 (gS p (c + 1)) h2 ∧ ∀ r, avA 2 153 76 [.ref 73, .int (bsI 30 p), .int (nI c), .int (nI 64)] [] (sX L t lt rt rp false h2 gl) r → avA 2 153 29 [.ref 73, .int (bsI 30 p), .int (nI c), .int (nI 0)] [] (sX L t lt rt rp false h1 gl) r := by
        exact l_states_false p c (by omega) 64 0 h1 rfl (rW_ext W (fun _ _ => rfl) (c1 74 rfl) (c1 75 rfl)) (rW_ext W1 (fun s _ => pG_0 _ _ s) rfl rfl)
      obtain ⟨h', sw', Z, c3, q⟩ := ih (c + 1) true h2 (.int (nI 64)) rfl (by omega) W2.1
      refine ⟨h', sw', ?_, CF_trans (CF_mono (by decide) c1) (CF_trans (CF_mono (by decide) c2) c3), q⟩
      refine a_iload_2 rfl rfl ?_
      refine a_bipush (v := nI 30) rfl rfl rfl ?_
      refine a_cmpN_ge rfl rfl rfl (by omega) (by omega) (fun a => absurd a (by omega)) (fun _ => ?_)
      refine a_aload_0 rfl rfl ?_
      refine a_virt0 rfl rfl C1 (Nat.le_of_ble_eq_true rfl) ⟨rfl, rfl, rfl, rfl⟩ rfl rfl rfl (Nat.le_of_ble_eq_true rfl) rfl rfl ?_
      refine a_iconst (v := nI 0) rfl rfl rfl ?_
      refine a_istore_3 rfl rfl rfl ?_
      refine W2.2 _ ?_
      refine a_aload_0 rfl rfl ?_
      refine a_virt0 rfl rfl e_swap_false (Nat.le_of_ble_eq_true rfl) ⟨rfl, rfl, rfl, rfl⟩ rfl rfl rfl (Nat.le_of_ble_eq_true rfl) rfl rfl ?_
      refine a_iinc_2 rfl rfl (nI_inc _ _) rfl ?_
      refine a_goto rfl rfl ?_
      exact Z
    | true =>
      obtain ⟨h1, C1, c1, W1⟩ := e_clear_true (L := L) (t := t) (lt := lt) (rt := rt) (rp := rp) (gl := gl) (h := h)
      obtain ⟨h2, c2, W2⟩ : ∃ h2, CF [74, 75] h1 h2 ∧ rW 74 75 (gS p (c + 1)) h2 ∧ ∀ r, avA 2 153 76 [.ref 73, .int (bsI 30 p), .int (nI c), .int (nI 64)] [] (sX L t lt rt rp true h2 gl) r → avA 2 153 29 [.ref 73, .int (bsI 30 p), .int (nI c), .int (nI 0)] [] (sX L t lt rt rp true h1 gl) r := by
        exact l_states_true p c (by omega) 64 0 h1 rfl (rW_ext W (fun _ _ => rfl) (c1 76 rfl) (c1 77 rfl)) (rW_ext W1 (fun s _ => pG_0 _ _ s) rfl rfl)
      obtain ⟨h', sw', Z, c3, q⟩ := ih (c + 1) false h2 (.int (nI 64)) rfl (by omega) W2.1
      refine ⟨h', sw', ?_, CF_trans (CF_mono (by decide) c1) (CF_trans (CF_mono (by decide) c2) c3), q⟩
      refine a_iload_2 rfl rfl ?_
      refine a_bipush (v := nI 30) rfl rfl rfl ?_
      refine a_cmpN_ge rfl rfl rfl (by omega) (by omega) (fun a => absurd a (by omega)) (fun _ => ?_)
      refine a_aload_0 rfl rfl ?_
      refine a_virt0 rfl rfl C1 (Nat.le_of_ble_eq_true rfl) ⟨rfl, rfl, rfl, rfl⟩ rfl rfl rfl (Nat.le_of_ble_eq_true rfl) rfl rfl ?_
      refine a_iconst (v := nI 0) rfl rfl rfl ?_
      refine a_istore_3 rfl rfl rfl ?_
      refine W2.2 _ ?_
      refine a_aload_0 rfl rfl ?_
      refine a_virt0 rfl rfl e_swap_true (Nat.le_of_ble_eq_true rfl) ⟨rfl, rfl, rfl, rfl⟩ rfl rfl rfl (Nat.le_of_ble_eq_true rfl) rfl rfl ?_
      refine a_iinc_2 rfl rfl (nI_inc _ _) rfl ?_
      refine a_goto rfl rfl ?_
      exact Z
theorem e_seat (p : Nat → Bool) {sw : Bool} {h : Nat → Nat → Int32} : ∃ h' sw', avE 2 153 [.ref 73, .int (bsI 30 p)] (sX L t lt rt rp sw h gl) (none, sX L t lt rt rp sw' h' gl) ∧ CF [73, 74, 75, 76, 77] h h' ∧ h' 73 4 = nI ((wP (gS p 30) 64).1 - 1) ∧ h' 73 5 = nI (wP (gS p 30) 64).2 := by
  cases sw with
  | false =>
    obtain ⟨h1, C1, c1, W1⟩ := e_clear_false (L := L) (t := t) (lt := lt) (rt := rt) (rp := rp) (gl := gl) (h := h)
    obtain ⟨h2, C2, c2, W2⟩ := e_offer_false (L := L) (t := t) (lt := lt) (rt := rt) (rp := rp) (gl := gl) W1 (s := 0) (a := 0) (w := 1) (by omega) (by decide) (by decide) (by decide) (by decide) (by decide)
    obtain ⟨h', sw', Z, c3, q⟩ := l_seat (L := L) (t := t) (lt := lt) (rt := rt) (rp := rp) (gl := gl) p 30 0 true h2 mvU rfl rfl (rW_ext W2 (fun s hs => by
      by_cases d : s = 0
      · subst d; rfl
      · rw [va_up_ne _ _ d, gS, if_neg d]) rfl rfl)
    refine ⟨h', sw', ?_, CF_trans (CF_mono (by decide) c1) (CF_trans (CF_mono (by decide) c2) c3), q⟩
    show avA _ 153 0 [.ref 73, .int (bsI 30 p), mvU, mvU] [] _ _
    refine a_aload_0 rfl rfl ?_
    refine a_virt0 rfl rfl (C1) (Nat.le_of_ble_eq_true rfl) ⟨rfl, rfl, rfl, rfl⟩ rfl rfl rfl (Nat.le_of_ble_eq_true rfl) rfl rfl ?_
    refine a_aload_0 rfl rfl ?_
    refine a_iconst (v := (nI 0)) rfl rfl rfl ?_
    refine a_iconst (v := (nI 0)) rfl rfl rfl ?_
    refine a_iconst (v := (nI 1)) rfl rfl rfl ?_
    refine a_virt0 rfl rfl (C2) (Nat.le_of_ble_eq_true rfl) ⟨rfl, rfl, rfl, rfl⟩ rfl rfl rfl (Nat.le_of_ble_eq_true rfl) rfl rfl ?_
    refine a_aload_0 rfl rfl ?_
    refine a_virt0 rfl rfl (e_swap_false) (Nat.le_of_ble_eq_true rfl) ⟨rfl, rfl, rfl, rfl⟩ rfl rfl rfl (Nat.le_of_ble_eq_true rfl) rfl rfl ?_
    refine a_iconst (v := (nI 0)) rfl rfl rfl ?_
    refine a_istore_2 rfl rfl rfl ?_
    exact Z
  | true =>
    obtain ⟨h1, C1, c1, W1⟩ := e_clear_true (L := L) (t := t) (lt := lt) (rt := rt) (rp := rp) (gl := gl) (h := h)
    obtain ⟨h2, C2, c2, W2⟩ := e_offer_true (L := L) (t := t) (lt := lt) (rt := rt) (rp := rp) (gl := gl) W1 (s := 0) (a := 0) (w := 1) (by omega) (by decide) (by decide) (by decide) (by decide) (by decide)
    obtain ⟨h', sw', Z, c3, q⟩ := l_seat (L := L) (t := t) (lt := lt) (rt := rt) (rp := rp) (gl := gl) p 30 0 false h2 mvU rfl rfl (rW_ext W2 (fun s hs => by
      by_cases d : s = 0
      · subst d; rfl
      · rw [va_up_ne _ _ d, gS, if_neg d]) rfl rfl)
    refine ⟨h', sw', ?_, CF_trans (CF_mono (by decide) c1) (CF_trans (CF_mono (by decide) c2) c3), q⟩
    show avA _ 153 0 [.ref 73, .int (bsI 30 p), mvU, mvU] [] _ _
    refine a_aload_0 rfl rfl ?_
    refine a_virt0 rfl rfl (C1) (Nat.le_of_ble_eq_true rfl) ⟨rfl, rfl, rfl, rfl⟩ rfl rfl rfl (Nat.le_of_ble_eq_true rfl) rfl rfl ?_
    refine a_aload_0 rfl rfl ?_
    refine a_iconst (v := (nI 0)) rfl rfl rfl ?_
    refine a_iconst (v := (nI 0)) rfl rfl rfl ?_
    refine a_iconst (v := (nI 1)) rfl rfl rfl ?_
    refine a_virt0 rfl rfl (C2) (Nat.le_of_ble_eq_true rfl) ⟨rfl, rfl, rfl, rfl⟩ rfl rfl rfl (Nat.le_of_ble_eq_true rfl) rfl rfl ?_
    refine a_aload_0 rfl rfl ?_
    refine a_virt0 rfl rfl (e_swap_true) (Nat.le_of_ble_eq_true rfl) ⟨rfl, rfl, rfl, rfl⟩ rfl rfl rfl (Nat.le_of_ble_eq_true rfl) rfl rfl ?_
    refine a_iconst (v := (nI 0)) rfl rfl rfl ?_
    refine a_istore_2 rfl rfl rfl ?_
    exact Z
end SF
