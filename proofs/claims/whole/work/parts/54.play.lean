/-! SCRIPTS PLAYED, YEARS, WHAT IS FORETOLD -/
section PL
variable {A B : Nat → Int32} {TX : Nat → Txt}
theorem p_clause (hA : okA A) (x k : Nat) (hx : x < gN A 1) (hk : k < (TX x).2.1) (hc : clsOK (TX x).2) : ∃ (b : Bool) (A' : Nat → Int32), (∀ v1 v2 : Int32, (has1 ((TX x).2.2 k).1 → v1 = ((TX x).2.2 k).2.1) → (has2 ((TX x).2.2 k).1 → v2 = ((TX x).2.2 k).2.2) → opC 60 6 114 [.ref 7, .int (nI (wdOf ((TX x).2.2 k).1)), .int v1, .int v2] TX A B (bB b) A' B) ∧ opR 10 273 [.ref 81, .int (nI (681 * x + 1 + 3 * k))] TX A B (bB b) A' B ∧ okA A' ∧ gN A' 1 = gN A 1 := by
  have h4 := gN_le (m := 4) hA.1 (i := 1) (by omega) (by decide)
  obtain ⟨hs, h9⟩ := hc.2 k hk
  have n24 := hc.1
  have hT : ∀ h : Nat → Nat → Int32, RI A B TX h → h 84 (681 * x + 1 + 3 * k) = nI ((TX x).2.2 k).1 ∧ (has1 ((TX x).2.2 k).1 → h 84 (681 * x + 1 + 3 * k + 1) = ((TX x).2.2 k).2.1) ∧ (has2 ((TX x).2.2 k).1 → h 84 (681 * x + 1 + 3 * k + 2) = ((TX x).2.2 k).2.2) := fun h H => (H.2.2.2 x hx).1.2 k hk
  obtain ⟨⟨s, v, w⟩, hcl⟩ : ∃ q : Nat × Int32 × Int32, (TX x).2.2 k = q := ⟨_, rfl⟩
  rw [hcl] at hs h9 hT ⊢
  dsimp only at hs h9 hT ⊢
  match s, hs with
  | 0, _ =>
    refine ⟨true, A, fun v1 v2 _ _ L t lt rt rp sw h gl R H hR => ⟨h, lt, R, sw, ?_, CF_refl, H, by omega, by omega⟩, fun L t lt rt rp sw h gl ok H => ⟨h, gl, ?_, CF_refl, fun _ _ => rfl, H⟩, hA, rfl⟩
    · show avA _ 114 0 [.ref 7, .int (nI 11), .int (v1), .int (v2), mvU] [] _ _
      refine a_iload_1 rfl rfl ?_
      refine a_tabIn rfl (by decide) rfl rfl ?_
      refine a_iconst (v := (nI 1)) rfl rfl rfl ?_
      exact a_zret rfl rfl (Or.inr rfl)
    · show avA _ 273 0 [.ref 81, .int (nI (681 * x + 1 + 3 * k)), mvU, mvU] [] _ _
      refine a_aload_0 rfl rfl ?_
      refine a_getr rfl rfl rfl (fun _ _ _ => rfl) rfl ?_
      refine a_iload_1 rfl rfl ?_
      refine a_iconst (v := (nI 1)) rfl rfl rfl ?_
      refine a_iaddN rfl rfl ?_
      refine a_iald rfl rfl (Or.inl rfl) rfl (by omega) (by decide) ?_
      refine a_istore_2 rfl rfl rfl ?_
      refine a_aload_0 rfl rfl ?_
      refine a_getr rfl rfl rfl (fun _ _ _ => rfl) rfl ?_
      refine a_iload_1 rfl rfl ?_
      refine a_iconst (v := (nI 2)) rfl rfl rfl ?_
      refine a_iaddN rfl rfl ?_
      refine a_iald rfl rfl (Or.inl rfl) rfl (by omega) (by decide) ?_
      refine a_istore_3 rfl rfl rfl ?_
      refine a_aload_0 rfl rfl ?_
      refine a_getr rfl rfl rfl (fun _ _ _ => rfl) rfl ?_
      refine a_iload_1 rfl rfl ?_
      refine a_iald rfl rfl (Or.inl rfl) rfl (by omega) (by decide) ?_
      refine a_as (y := nI (0)) (hT h H).1 ?_
      refine a_tabOut rfl (by decide) rfl ?_
      refine a_iconst (v := (nI 1)) rfl rfl rfl ?_
      exact a_zret rfl rfl (Or.inr rfl)
  | 1, _ =>
    refine ⟨true, A, fun v1 v2 _ _ L t lt rt rp sw h gl R H hR => ⟨h, lt, R, sw, ?_, CF_refl, H, by omega, by omega⟩, fun L t lt rt rp sw h gl ok H => ⟨h, gl, ?_, CF_refl, fun _ _ => rfl, H⟩, hA, rfl⟩
    · show avA _ 114 0 [.ref 7, .int (nI 12), .int (v1), .int (v2), mvU] [] _ _
      refine a_iload_1 rfl rfl ?_
      refine a_tabIn rfl (by decide) rfl rfl ?_
      refine a_iconst (v := (nI 1)) rfl rfl rfl ?_
      exact a_zret rfl rfl (Or.inr rfl)
    · show avA _ 273 0 [.ref 81, .int (nI (681 * x + 1 + 3 * k)), mvU, mvU] [] _ _
      refine a_aload_0 rfl rfl ?_
      refine a_getr rfl rfl rfl (fun _ _ _ => rfl) rfl ?_
      refine a_iload_1 rfl rfl ?_
      refine a_iconst (v := (nI 1)) rfl rfl rfl ?_
      refine a_iaddN rfl rfl ?_
      refine a_iald rfl rfl (Or.inl rfl) rfl (by omega) (by decide) ?_
      refine a_istore_2 rfl rfl rfl ?_
      refine a_aload_0 rfl rfl ?_
      refine a_getr rfl rfl rfl (fun _ _ _ => rfl) rfl ?_
      refine a_iload_1 rfl rfl ?_
      refine a_iconst (v := (nI 2)) rfl rfl rfl ?_
      refine a_iaddN rfl rfl ?_
      refine a_iald rfl rfl (Or.inl rfl) rfl (by omega) (by decide) ?_
      refine a_istore_3 rfl rfl rfl ?_
      refine a_aload_0 rfl rfl ?_
      refine a_getr rfl rfl rfl (fun _ _ _ => rfl) rfl ?_
      refine a_iload_1 rfl rfl ?_
      refine a_iald rfl rfl (Or.inl rfl) rfl (by omega) (by decide) ?_
      refine a_as (y := nI (1)) (hT h H).1 ?_
      refine a_tabOut rfl (by decide) rfl ?_
      refine a_iconst (v := (nI 1)) rfl rfl rfl ?_
      exact a_zret rfl rfl (Or.inr rfl)
  | 2, _ =>
    refine ⟨true, A, fun v1 v2 _ _ L t lt rt rp sw h gl R H hR => ⟨h, lt, R, sw, ?_, CF_refl, H, by omega, by omega⟩, fun L t lt rt rp sw h gl ok H => ⟨h, gl, ?_, CF_refl, fun _ _ => rfl, H⟩, hA, rfl⟩
    · show avA _ 114 0 [.ref 7, .int (nI 13), .int (v1), .int (v2), mvU] [] _ _
      refine a_iload_1 rfl rfl ?_
      refine a_tabIn rfl (by decide) rfl rfl ?_
      refine a_iconst (v := (nI 1)) rfl rfl rfl ?_
      exact a_zret rfl rfl (Or.inr rfl)
    · show avA _ 273 0 [.ref 81, .int (nI (681 * x + 1 + 3 * k)), mvU, mvU] [] _ _
      refine a_aload_0 rfl rfl ?_
      refine a_getr rfl rfl rfl (fun _ _ _ => rfl) rfl ?_
      refine a_iload_1 rfl rfl ?_
      refine a_iconst (v := (nI 1)) rfl rfl rfl ?_
      refine a_iaddN rfl rfl ?_
      refine a_iald rfl rfl (Or.inl rfl) rfl (by omega) (by decide) ?_
      refine a_istore_2 rfl rfl rfl ?_
      refine a_aload_0 rfl rfl ?_
      refine a_getr rfl rfl rfl (fun _ _ _ => rfl) rfl ?_
      refine a_iload_1 rfl rfl ?_
      refine a_iconst (v := (nI 2)) rfl rfl rfl ?_
      refine a_iaddN rfl rfl ?_
      refine a_iald rfl rfl (Or.inl rfl) rfl (by omega) (by decide) ?_
      refine a_istore_3 rfl rfl rfl ?_
      refine a_aload_0 rfl rfl ?_
      refine a_getr rfl rfl rfl (fun _ _ _ => rfl) rfl ?_
      refine a_iload_1 rfl rfl ?_
      refine a_iald rfl rfl (Or.inl rfl) rfl (by omega) (by decide) ?_
      refine a_as (y := nI (2)) (hT h H).1 ?_
      refine a_tabOut rfl (by decide) rfl ?_
      refine a_iconst (v := (nI 1)) rfl rfl rfl ?_
      exact a_zret rfl rfl (Or.inr rfl)
  | 3, _ =>
    obtain ⟨b, A', pC, pR, ok, g1⟩ := p_cell (B := B) (TX := TX) hA v w
    refine ⟨b, A', fun v1 v2 e1 e2 L t lt rt rp sw h gl R H hR => ?_, fun L t lt rt rp sw h gl ok2 H => ?_, ok, g1⟩
    · have e1 := e1 (by decide)
      have e2 := e2 (by decide)
      subst e1 e2
      obtain ⟨h', lt', R', sw', C, c, H', r1, r2⟩ := pC L t lt rt rp sw h gl R H (by omega)
      refine ⟨h', lt', R', sw', ?_, c, H', r1, by omega⟩
      show avA _ 114 0 [.ref 7, .int (nI 14), .int (v1), .int (v2), mvU] [] _ _
      refine a_iload_1 rfl rfl ?_
      refine a_tabIn rfl (by decide) rfl rfl ?_
      refine a_aload_0 rfl rfl ?_
      refine a_iload_2 rfl rfl ?_
      refine a_iload_3 rfl rfl ?_
      refine a_virtI rfl rfl (C) (Nat.le_of_ble_eq_true rfl) ⟨rfl, rfl, rfl, rfl⟩ rfl rfl rfl (Nat.le_of_ble_eq_true rfl) rfl rfl ?_
      exact a_zret rfl rfl (bB_01 _)
    · obtain ⟨h', gl', C, c, d, H'⟩ := pR L t lt rt rp sw h gl ok2 H
      refine ⟨h', gl', ?_, c, d, H'⟩
      show avA _ 273 0 [.ref 81, .int (nI (681 * x + 1 + 3 * k)), mvU, mvU] [] _ _
      refine a_aload_0 rfl rfl ?_
      refine a_getr rfl rfl rfl (fun _ _ _ => rfl) rfl ?_
      refine a_iload_1 rfl rfl ?_
      refine a_iconst (v := (nI 1)) rfl rfl rfl ?_
      refine a_iaddN rfl rfl ?_
      refine a_iald rfl rfl (Or.inl rfl) rfl (by omega) (by decide) ?_
      refine a_as (y := v) ((hT h H).2.1 (by decide)) ?_
      refine a_istore_2 rfl rfl rfl ?_
      refine a_aload_0 rfl rfl ?_
      refine a_getr rfl rfl rfl (fun _ _ _ => rfl) rfl ?_
      refine a_iload_1 rfl rfl ?_
      refine a_iconst (v := (nI 2)) rfl rfl rfl ?_
      refine a_iaddN rfl rfl ?_
      refine a_iald rfl rfl (Or.inl rfl) rfl (by omega) (by decide) ?_
      refine a_as (y := w) ((hT h H).2.2 (by decide)) ?_
      refine a_istore_3 rfl rfl rfl ?_
      refine a_aload_0 rfl rfl ?_
      refine a_getr rfl rfl rfl (fun _ _ _ => rfl) rfl ?_
      refine a_iload_1 rfl rfl ?_
      refine a_iald rfl rfl (Or.inl rfl) rfl (by omega) (by decide) ?_
      refine a_as (y := nI (3)) (hT h H).1 ?_
      refine a_tabIn rfl (by decide) rfl rfl ?_
      refine a_aload_0 rfl rfl ?_
      refine a_iload_2 rfl rfl ?_
      refine a_iload_3 rfl rfl ?_
      refine a_virtI rfl rfl (C) (Nat.le_of_ble_eq_true rfl) ⟨rfl, rfl, rfl, rfl⟩ rfl rfl rfl (Nat.le_of_ble_eq_true rfl) rfl rfl ?_
      exact a_zret rfl rfl (bB_01 _)
  | 4, _ =>
    obtain ⟨b, A', pC, pR, ok, g1⟩ := p_height (B := B) (TX := TX) hA w v
    refine ⟨b, A', fun v1 v2 e1 e2 L t lt rt rp sw h gl R H hR => ?_, fun L t lt rt rp sw h gl ok2 H => ?_, ok, g1⟩
    · have e1 := e1 (by decide)
      have e2 := e2 (by decide)
      subst e1 e2
      obtain ⟨h', lt', R', sw', C, c, H', r1, r2⟩ := pC L t lt rt rp sw h gl R H (by omega)
      refine ⟨h', lt', R', sw', ?_, c, H', r1, by omega⟩
      show avA _ 114 0 [.ref 7, .int (nI 5), .int (v1), .int (v2), mvU] [] _ _
      refine a_iload_1 rfl rfl ?_
      refine a_tabIn rfl (by decide) rfl rfl ?_
      refine a_aload_0 rfl rfl ?_
      refine a_iload_3 rfl rfl ?_
      refine a_iload_2 rfl rfl ?_
      refine a_virtI rfl rfl (C) (Nat.le_of_ble_eq_true rfl) ⟨rfl, rfl, rfl, rfl⟩ rfl rfl rfl (Nat.le_of_ble_eq_true rfl) rfl rfl ?_
      exact a_zret rfl rfl (bB_01 _)
    · obtain ⟨h', gl', C, c, d, H'⟩ := pR L t lt rt rp sw h gl ok2 H
      refine ⟨h', gl', ?_, c, d, H'⟩
      show avA _ 273 0 [.ref 81, .int (nI (681 * x + 1 + 3 * k)), mvU, mvU] [] _ _
      refine a_aload_0 rfl rfl ?_
      refine a_getr rfl rfl rfl (fun _ _ _ => rfl) rfl ?_
      refine a_iload_1 rfl rfl ?_
      refine a_iconst (v := (nI 1)) rfl rfl rfl ?_
      refine a_iaddN rfl rfl ?_
      refine a_iald rfl rfl (Or.inl rfl) rfl (by omega) (by decide) ?_
      refine a_as (y := v) ((hT h H).2.1 (by decide)) ?_
      refine a_istore_2 rfl rfl rfl ?_
      refine a_aload_0 rfl rfl ?_
      refine a_getr rfl rfl rfl (fun _ _ _ => rfl) rfl ?_
      refine a_iload_1 rfl rfl ?_
      refine a_iconst (v := (nI 2)) rfl rfl rfl ?_
      refine a_iaddN rfl rfl ?_
      refine a_iald rfl rfl (Or.inl rfl) rfl (by omega) (by decide) ?_
      refine a_as (y := w) ((hT h H).2.2 (by decide)) ?_
      refine a_istore_3 rfl rfl rfl ?_
      refine a_aload_0 rfl rfl ?_
      refine a_getr rfl rfl rfl (fun _ _ _ => rfl) rfl ?_
      refine a_iload_1 rfl rfl ?_
      refine a_iald rfl rfl (Or.inl rfl) rfl (by omega) (by decide) ?_
      refine a_as (y := nI (4)) (hT h H).1 ?_
      refine a_tabIn rfl (by decide) rfl rfl ?_
      refine a_aload_0 rfl rfl ?_
      refine a_iload_3 rfl rfl ?_
      refine a_iload_2 rfl rfl ?_
      refine a_virtI rfl rfl (C) (Nat.le_of_ble_eq_true rfl) ⟨rfl, rfl, rfl, rfl⟩ rfl rfl rfl (Nat.le_of_ble_eq_true rfl) rfl rfl ?_
      exact a_zret rfl rfl (bB_01 _)
  | 5, _ =>
    obtain ⟨r, A', ⟨pC, pR, ok, g1⟩, hr⟩ := p_beast (B := B) (TX := TX) hA v w
    rcases hr with rfl | hr
    · refine ⟨false, A', fun v1 v2 e1 e2 L t lt rt rp sw h gl R H hR => ?_, fun L t lt rt rp sw h gl ok2 H => ?_, ok, g1⟩
      · have e1 := e1 (by decide)
        have e2 := e2 (by decide)
        subst e1 e2
        obtain ⟨h', lt', R', sw', C, c, H', r1, r2⟩ := pC L t lt rt rp sw h gl R H (by omega)
        refine ⟨h', lt', R', sw', ?_, c, H', r1, by omega⟩
        show avA _ 114 0 [.ref 7, .int (nI 15), .int (v1), .int (v2), mvU] [] _ _
        refine a_iload_1 rfl rfl ?_
        refine a_tabIn rfl (by decide) rfl rfl ?_
        refine a_aload_0 rfl rfl ?_
        refine a_iload_2 rfl rfl ?_
        refine a_iload_3 rfl rfl ?_
        refine a_virtI rfl rfl (C) (Nat.le_of_ble_eq_true rfl) ⟨rfl, rfl, rfl, rfl⟩ rfl rfl rfl (Nat.le_of_ble_eq_true rfl) rfl rfl ?_
        refine a_iconst (v := (-1)) rfl rfl rfl ?_
        refine a_cmp_eq rfl rfl rfl (fun _ => ?_) (fun c_113 => by first | exact absurd rfl c_113 | exact absurd c_113 rfl)
        refine a_iconst (v := (nI 0)) rfl rfl rfl ?_
        exact a_zret rfl rfl (Or.inl rfl)
      · obtain ⟨h', gl', C, c, d, H'⟩ := pR L t lt rt rp sw h gl ok2 H
        refine ⟨h', gl', ?_, c, d, H'⟩
        show avA _ 273 0 [.ref 81, .int (nI (681 * x + 1 + 3 * k)), mvU, mvU] [] _ _
        refine a_aload_0 rfl rfl ?_
        refine a_getr rfl rfl rfl (fun _ _ _ => rfl) rfl ?_
        refine a_iload_1 rfl rfl ?_
        refine a_iconst (v := (nI 1)) rfl rfl rfl ?_
        refine a_iaddN rfl rfl ?_
        refine a_iald rfl rfl (Or.inl rfl) rfl (by omega) (by decide) ?_
        refine a_as (y := v) ((hT h H).2.1 (by decide)) ?_
        refine a_istore_2 rfl rfl rfl ?_
        refine a_aload_0 rfl rfl ?_
        refine a_getr rfl rfl rfl (fun _ _ _ => rfl) rfl ?_
        refine a_iload_1 rfl rfl ?_
        refine a_iconst (v := (nI 2)) rfl rfl rfl ?_
        refine a_iaddN rfl rfl ?_
        refine a_iald rfl rfl (Or.inl rfl) rfl (by omega) (by decide) ?_
        refine a_as (y := w) ((hT h H).2.2 (by decide)) ?_
        refine a_istore_3 rfl rfl rfl ?_
        refine a_aload_0 rfl rfl ?_
        refine a_getr rfl rfl rfl (fun _ _ _ => rfl) rfl ?_
        refine a_iload_1 rfl rfl ?_
        refine a_iald rfl rfl (Or.inl rfl) rfl (by omega) (by decide) ?_
        refine a_as (y := nI (5)) (hT h H).1 ?_
        refine a_tabIn rfl (by decide) rfl rfl ?_
        refine a_aload_0 rfl rfl ?_
        refine a_iload_2 rfl rfl ?_
        refine a_iload_3 rfl rfl ?_
        refine a_virtI rfl rfl (C) (Nat.le_of_ble_eq_true rfl) ⟨rfl, rfl, rfl, rfl⟩ rfl rfl rfl (Nat.le_of_ble_eq_true rfl) rfl rfl ?_
        refine a_ifI_lt rfl rfl rfl rfl (fun _ => ?_) (fun c_88 => False.elim (c_88 (by decide)))
        refine a_iconst (v := (nI 0)) rfl rfl rfl ?_
        exact a_zret rfl rfl (Or.inl rfl)
    · refine ⟨true, A', fun v1 v2 e1 e2 L t lt rt rp sw h gl R H hR => ?_, fun L t lt rt rp sw h gl ok2 H => ?_, ok, g1⟩
      · have e1 := e1 (by decide)
        have e2 := e2 (by decide)
        subst e1 e2
        obtain ⟨h', lt', R', sw', C, c, H', r1, r2⟩ := pC L t lt rt rp sw h gl R H (by omega)
        refine ⟨h', lt', R', sw', ?_, c, H', r1, by omega⟩
        show avA _ 114 0 [.ref 7, .int (nI 15), .int (v1), .int (v2), mvU] [] _ _
        refine a_iload_1 rfl rfl ?_
        refine a_tabIn rfl (by decide) rfl rfl ?_
        refine a_aload_0 rfl rfl ?_
        refine a_iload_2 rfl rfl ?_
        refine a_iload_3 rfl rfl ?_
        refine a_virtI rfl rfl (C) (Nat.le_of_ble_eq_true rfl) ⟨rfl, rfl, rfl, rfl⟩ rfl rfl rfl (Nat.le_of_ble_eq_true rfl) rfl rfl ?_
        refine a_iconst (v := (-1)) rfl rfl rfl ?_
        refine a_cmp_eq rfl rfl rfl (fun c_113 => by first | exact absurd c_113 (fun q => absurd hr (by rw [q]; decide)) | exact absurd (fun q => absurd hr (by rw [q]; decide)) c_113) (fun _ => ?_)
        refine a_iconst (v := (nI 1)) rfl rfl rfl ?_
        refine a_goto rfl rfl ?_
        exact a_zret rfl rfl (Or.inr rfl)
      · obtain ⟨h', gl', C, c, d, H'⟩ := pR L t lt rt rp sw h gl ok2 H
        refine ⟨h', gl', ?_, c, d, H'⟩
        show avA _ 273 0 [.ref 81, .int (nI (681 * x + 1 + 3 * k)), mvU, mvU] [] _ _
        refine a_aload_0 rfl rfl ?_
        refine a_getr rfl rfl rfl (fun _ _ _ => rfl) rfl ?_
        refine a_iload_1 rfl rfl ?_
        refine a_iconst (v := (nI 1)) rfl rfl rfl ?_
        refine a_iaddN rfl rfl ?_
        refine a_iald rfl rfl (Or.inl rfl) rfl (by omega) (by decide) ?_
        refine a_as (y := v) ((hT h H).2.1 (by decide)) ?_
        refine a_istore_2 rfl rfl rfl ?_
        refine a_aload_0 rfl rfl ?_
        refine a_getr rfl rfl rfl (fun _ _ _ => rfl) rfl ?_
        refine a_iload_1 rfl rfl ?_
        refine a_iconst (v := (nI 2)) rfl rfl rfl ?_
        refine a_iaddN rfl rfl ?_
        refine a_iald rfl rfl (Or.inl rfl) rfl (by omega) (by decide) ?_
        refine a_as (y := w) ((hT h H).2.2 (by decide)) ?_
        refine a_istore_3 rfl rfl rfl ?_
        refine a_aload_0 rfl rfl ?_
        refine a_getr rfl rfl rfl (fun _ _ _ => rfl) rfl ?_
        refine a_iload_1 rfl rfl ?_
        refine a_iald rfl rfl (Or.inl rfl) rfl (by omega) (by decide) ?_
        refine a_as (y := nI (5)) (hT h H).1 ?_
        refine a_tabIn rfl (by decide) rfl rfl ?_
        refine a_aload_0 rfl rfl ?_
        refine a_iload_2 rfl rfl ?_
        refine a_iload_3 rfl rfl ?_
        refine a_virtI rfl rfl (C) (Nat.le_of_ble_eq_true rfl) ⟨rfl, rfl, rfl, rfl⟩ rfl rfl rfl (Nat.le_of_ble_eq_true rfl) rfl rfl ?_
        refine a_ifI_lt rfl rfl rfl rfl (fun c_88 => False.elim (by omega)) (fun _ => ?_)
        refine a_iconst (v := (nI 1)) rfl rfl rfl ?_
        refine a_goto rfl rfl ?_
        exact a_zret rfl rfl (Or.inr rfl)
  | 6, _ =>
    obtain ⟨b, A', pC, pR, ok, g1⟩ := p_lodge (B := B) (TX := TX) hA v
    refine ⟨b, A', fun v1 v2 e1 e2 L t lt rt rp sw h gl R H hR => ?_, fun L t lt rt rp sw h gl ok2 H => ?_, ok, g1⟩
    · have e1 := e1 (by decide)
      subst e1
      obtain ⟨h', lt', R', sw', C, c, H', r1, r2⟩ := pC L t lt rt rp sw h gl R H (by omega)
      refine ⟨h', lt', R', sw', ?_, c, H', r1, by omega⟩
      show avA _ 114 0 [.ref 7, .int (nI 16), .int (v1), .int (v2), mvU] [] _ _
      refine a_iload_1 rfl rfl ?_
      refine a_tabIn rfl (by decide) rfl rfl ?_
      refine a_aload_0 rfl rfl ?_
      refine a_iload_2 rfl rfl ?_
      refine a_virtI rfl rfl (C) (Nat.le_of_ble_eq_true rfl) ⟨rfl, rfl, rfl, rfl⟩ rfl rfl rfl (Nat.le_of_ble_eq_true rfl) rfl rfl ?_
      exact a_zret rfl rfl (bB_01 _)
    · obtain ⟨h', gl', C, c, d, H'⟩ := pR L t lt rt rp sw h gl ok2 H
      refine ⟨h', gl', ?_, c, d, H'⟩
      show avA _ 273 0 [.ref 81, .int (nI (681 * x + 1 + 3 * k)), mvU, mvU] [] _ _
      refine a_aload_0 rfl rfl ?_
      refine a_getr rfl rfl rfl (fun _ _ _ => rfl) rfl ?_
      refine a_iload_1 rfl rfl ?_
      refine a_iconst (v := (nI 1)) rfl rfl rfl ?_
      refine a_iaddN rfl rfl ?_
      refine a_iald rfl rfl (Or.inl rfl) rfl (by omega) (by decide) ?_
      refine a_as (y := v) ((hT h H).2.1 (by decide)) ?_
      refine a_istore_2 rfl rfl rfl ?_
      refine a_aload_0 rfl rfl ?_
      refine a_getr rfl rfl rfl (fun _ _ _ => rfl) rfl ?_
      refine a_iload_1 rfl rfl ?_
      refine a_iconst (v := (nI 2)) rfl rfl rfl ?_
      refine a_iaddN rfl rfl ?_
      refine a_iald rfl rfl (Or.inl rfl) rfl (by omega) (by decide) ?_
      refine a_istore_3 rfl rfl rfl ?_
      refine a_aload_0 rfl rfl ?_
      refine a_getr rfl rfl rfl (fun _ _ _ => rfl) rfl ?_
      refine a_iload_1 rfl rfl ?_
      refine a_iald rfl rfl (Or.inl rfl) rfl (by omega) (by decide) ?_
      refine a_as (y := nI (6)) (hT h H).1 ?_
      refine a_tabIn rfl (by decide) rfl rfl ?_
      refine a_aload_0 rfl rfl ?_
      refine a_iload_2 rfl rfl ?_
      refine a_virtI rfl rfl (C) (Nat.le_of_ble_eq_true rfl) ⟨rfl, rfl, rfl, rfl⟩ rfl rfl rfl (Nat.le_of_ble_eq_true rfl) rfl rfl ?_
      exact a_zret rfl rfl (bB_01 _)
  | 7, _ =>
    obtain ⟨b, A', pC, pR, ok, g1⟩ := p_out (B := B) (TX := TX) hA
    refine ⟨b, A', fun v1 v2 e1 e2 L t lt rt rp sw h gl R H hR => ?_, fun L t lt rt rp sw h gl ok2 H => ?_, ok, g1⟩
    · obtain ⟨h', lt', R', sw', C, c, H', r1, r2⟩ := pC L t lt rt rp sw h gl R H (by omega)
      refine ⟨h', lt', R', sw', ?_, c, H', r1, by omega⟩
      show avA _ 114 0 [.ref 7, .int (nI 17), .int (v1), .int (v2), mvU] [] _ _
      refine a_iload_1 rfl rfl ?_
      refine a_tabIn rfl (by decide) rfl rfl ?_
      refine a_aload_0 rfl rfl ?_
      refine a_virtI rfl rfl (C) (Nat.le_of_ble_eq_true rfl) ⟨rfl, rfl, rfl, rfl⟩ rfl rfl rfl (Nat.le_of_ble_eq_true rfl) rfl rfl ?_
      exact a_zret rfl rfl (bB_01 _)
    · obtain ⟨h', gl', C, c, d, H'⟩ := pR L t lt rt rp sw h gl ok2 H
      refine ⟨h', gl', ?_, c, d, H'⟩
      show avA _ 273 0 [.ref 81, .int (nI (681 * x + 1 + 3 * k)), mvU, mvU] [] _ _
      refine a_aload_0 rfl rfl ?_
      refine a_getr rfl rfl rfl (fun _ _ _ => rfl) rfl ?_
      refine a_iload_1 rfl rfl ?_
      refine a_iconst (v := (nI 1)) rfl rfl rfl ?_
      refine a_iaddN rfl rfl ?_
      refine a_iald rfl rfl (Or.inl rfl) rfl (by omega) (by decide) ?_
      refine a_istore_2 rfl rfl rfl ?_
      refine a_aload_0 rfl rfl ?_
      refine a_getr rfl rfl rfl (fun _ _ _ => rfl) rfl ?_
      refine a_iload_1 rfl rfl ?_
      refine a_iconst (v := (nI 2)) rfl rfl rfl ?_
      refine a_iaddN rfl rfl ?_
      refine a_iald rfl rfl (Or.inl rfl) rfl (by omega) (by decide) ?_
      refine a_istore_3 rfl rfl rfl ?_
      refine a_aload_0 rfl rfl ?_
      refine a_getr rfl rfl rfl (fun _ _ _ => rfl) rfl ?_
      refine a_iload_1 rfl rfl ?_
      refine a_iald rfl rfl (Or.inl rfl) rfl (by omega) (by decide) ?_
      refine a_as (y := nI (7)) (hT h H).1 ?_
      refine a_tabIn rfl (by decide) rfl rfl ?_
      refine a_aload_0 rfl rfl ?_
      refine a_virtI rfl rfl (C) (Nat.le_of_ble_eq_true rfl) ⟨rfl, rfl, rfl, rfl⟩ rfl rfl rfl (Nat.le_of_ble_eq_true rfl) rfl rfl ?_
      exact a_zret rfl rfl (bB_01 _)
  | 8, _ =>
    obtain ⟨b, A', pC, pR, ok, g1⟩ := p_lead (B := B) (TX := TX) hA v w
    refine ⟨b, A', fun v1 v2 e1 e2 L t lt rt rp sw h gl R H hR => ?_, fun L t lt rt rp sw h gl ok2 H => ?_, ok, g1⟩
    · have e1 := e1 (by decide)
      have e2 := e2 (by decide)
      subst e1 e2
      obtain ⟨h', lt', R', sw', C, c, H', r1, r2⟩ := pC L t lt rt rp sw h gl R H (by omega)
      refine ⟨h', lt', R', sw', ?_, c, H', r1, by omega⟩
      show avA _ 114 0 [.ref 7, .int (nI 18), .int (v1), .int (v2), mvU] [] _ _
      refine a_iload_1 rfl rfl ?_
      refine a_tabIn rfl (by decide) rfl rfl ?_
      refine a_aload_0 rfl rfl ?_
      refine a_iload_2 rfl rfl ?_
      refine a_iload_3 rfl rfl ?_
      refine a_virtI rfl rfl (C) (Nat.le_of_ble_eq_true rfl) ⟨rfl, rfl, rfl, rfl⟩ rfl rfl rfl (Nat.le_of_ble_eq_true rfl) rfl rfl ?_
      exact a_zret rfl rfl (bB_01 _)
    · obtain ⟨h', gl', C, c, d, H'⟩ := pR L t lt rt rp sw h gl ok2 H
      refine ⟨h', gl', ?_, c, d, H'⟩
      show avA _ 273 0 [.ref 81, .int (nI (681 * x + 1 + 3 * k)), mvU, mvU] [] _ _
      refine a_aload_0 rfl rfl ?_
      refine a_getr rfl rfl rfl (fun _ _ _ => rfl) rfl ?_
      refine a_iload_1 rfl rfl ?_
      refine a_iconst (v := (nI 1)) rfl rfl rfl ?_
      refine a_iaddN rfl rfl ?_
      refine a_iald rfl rfl (Or.inl rfl) rfl (by omega) (by decide) ?_
      refine a_as (y := v) ((hT h H).2.1 (by decide)) ?_
      refine a_istore_2 rfl rfl rfl ?_
      refine a_aload_0 rfl rfl ?_
      refine a_getr rfl rfl rfl (fun _ _ _ => rfl) rfl ?_
      refine a_iload_1 rfl rfl ?_
      refine a_iconst (v := (nI 2)) rfl rfl rfl ?_
      refine a_iaddN rfl rfl ?_
      refine a_iald rfl rfl (Or.inl rfl) rfl (by omega) (by decide) ?_
      refine a_as (y := w) ((hT h H).2.2 (by decide)) ?_
      refine a_istore_3 rfl rfl rfl ?_
      refine a_aload_0 rfl rfl ?_
      refine a_getr rfl rfl rfl (fun _ _ _ => rfl) rfl ?_
      refine a_iload_1 rfl rfl ?_
      refine a_iald rfl rfl (Or.inl rfl) rfl (by omega) (by decide) ?_
      refine a_as (y := nI (8)) (hT h H).1 ?_
      refine a_tabIn rfl (by decide) rfl rfl ?_
      refine a_aload_0 rfl rfl ?_
      refine a_iload_2 rfl rfl ?_
      refine a_iload_3 rfl rfl ?_
      refine a_virtI rfl rfl (C) (Nat.le_of_ble_eq_true rfl) ⟨rfl, rfl, rfl, rfl⟩ rfl rfl rfl (Nat.le_of_ble_eq_true rfl) rfl rfl ?_
      exact a_zret rfl rfl (bB_01 _)
  | 9, _ =>
    obtain ⟨q, hq, rfl⟩ := h9 rfl
    obtain ⟨o1, o2⟩ := hrS_ok (TX := TX) q A 0 hA
    refine ⟨(hrS TX q A 0).2.2, (hrS TX q A 0).1, fun v1 v2 e1 e2 L t lt rt rp sw h gl R H hR => ?_, fun L t lt rt rp sw h gl ok2 H => ?_, o1, o2⟩
    · have e1 := e1 (by decide)
      subst e1
      obtain ⟨h', lt', R', A1, c, H', r1, r2⟩ := l_play (L := L) (t := t) (rt := rt) (rp := rp) (sw := sw) (gl := gl) (B := B) (TX := TX) q hq (.int (nI 0)) v2 q 0 0 R A lt h (by omega) H (by omega)
      refine ⟨h', lt', R', sw, ?_, c, H', r1, by omega⟩
      show avA _ 114 0 [.ref 7, .int (nI 0), .int (nI (q)), .int (v2), mvU] [] _ _
      refine a_iload_1 rfl rfl ?_
      refine a_tabIn rfl (by decide) rfl rfl ?_
      refine a_iconst (v := (nI 0)) rfl rfl rfl ?_
      refine a_istore_4 rfl rfl rfl ?_
      exact A1
    · obtain ⟨h', gl', C, c, d, H', dk⟩ := r_hours (L := L) (t := t) (lt := lt) (rt := rt) (rp := rp) (sw := sw) (gl := gl) q hq ok2 H
      refine ⟨h', gl', ?_, c, d, H'⟩
      show avA _ 273 0 [.ref 81, .int (nI (681 * x + 1 + 3 * k)), mvU, mvU] [] _ _
      refine a_aload_0 rfl rfl ?_
      refine a_getr rfl rfl rfl (fun _ _ _ => rfl) rfl ?_
      refine a_iload_1 rfl rfl ?_
      refine a_iconst (v := (nI 1)) rfl rfl rfl ?_
      refine a_iaddN rfl rfl ?_
      refine a_iald rfl rfl (Or.inl rfl) rfl (by omega) (by decide) ?_
      refine a_as (y := nI q) ((hT h H).2.1 (by decide)) ?_
      refine a_istore_2 rfl rfl rfl ?_
      refine a_aload_0 rfl rfl ?_
      refine a_getr rfl rfl rfl (fun _ _ _ => rfl) rfl ?_
      refine a_iload_1 rfl rfl ?_
      refine a_iconst (v := (nI 2)) rfl rfl rfl ?_
      refine a_iaddN rfl rfl ?_
      refine a_iald rfl rfl (Or.inl rfl) rfl (by omega) (by decide) ?_
      refine a_istore_3 rfl rfl rfl ?_
      refine a_aload_0 rfl rfl ?_
      refine a_getr rfl rfl rfl (fun _ _ _ => rfl) rfl ?_
      refine a_iload_1 rfl rfl ?_
      refine a_iald rfl rfl (Or.inl rfl) rfl (by omega) (by decide) ?_
      refine a_as (y := nI (9)) (hT h H).1 ?_
      refine a_tabIn rfl (by decide) rfl rfl ?_
      refine a_aload_0 rfl rfl ?_
      refine a_iload_2 rfl rfl ?_
      refine a_virtI rfl rfl (C) (Nat.le_of_ble_eq_true rfl) ⟨rfl, rfl, rfl, rfl⟩ rfl rfl rfl (Nat.le_of_ble_eq_true rfl) rfl rfl ?_
      exact a_zret rfl rfl (bB_01 _)
  | n + 10, hh => exact absurd hh (by omega)
theorem l_played (x n : Nat) (hn : n ≤ 24) (hcn : (TX x).2.1 = n) (hc : clsOK (TX x).2) (hx4 : x < 4) (j : Nat) : ∀ (i : Nat) (A : Nat → Int32), i + j = n → okA A → x < gN A 1 → ∃ (r : Int32) (A' : Nat → Int32), (∀ (L t : Nat) (lt rt rp : Option Nat) (sw : Bool) (h : Nat → Nat → Int32) (gl : Nat → Nat → Int64) (R : Nat), CI A B TX R t lt h → R + 60 * j < 67108864 → ∃ h' lt' R' sw', avA 7 113 20 [.ref 7, .int (nI x), .ref (98 + 7 * x), .int (nI i)] [] (sX L t lt rt rp sw h gl) (some (.int r), sX L t lt' rt rp sw' h' gl) ∧ CF clS h h' ∧ CI A' B TX R' t lt' h' ∧ R ≤ R' ∧ R' ≤ R + 60 * j) ∧ (∀ (L t : Nat) (lt rt rp : Option Nat) (sw : Bool) (h : Nat → Nat → Int32) (gl : Nat → Nat → Int64), RI A B TX h → ∃ h' gl', avA 11 272 21 [.ref 81, .int (nI x), .int (nI i)] [] (sX L t lt rt rp sw h gl) (some (.int r), sX L t lt rt rp sw h' gl') ∧ CF rfS h h' ∧ (∀ j, j ≠ 26 → h' 81 j = h 81 j) ∧ RI A' B TX h') ∧ okA A' ∧ gN A' 1 = gN A 1 := by
  induction j with
  | zero =>
    intro i A hi hA hx
    refine ⟨-1, A, fun L t lt rt rp sw h gl R H hR => ⟨h, lt, R, sw, ?_, CF_refl, H, by omega, by omega⟩, fun L t lt rt rp sw h gl H => ⟨h, gl, ?_, CF_refl, fun _ _ => rfl, H⟩, hA, rfl⟩
    · have e3 : h (98 + 7 * x) 3 = nI n := by rw [← hcn]; exact (H.2.2.2.2.2.1 x hx).2.1.1
      have hxt : x < t := by have := H.2.2.1; omega
      refine a_iload_3 rfl rfl ?_
      refine a_aload_2 rfl rfl ?_
      refine a_geti rfl rfl (congrArg Prod.fst (tx_t hxt)) (fun _ _ _ => rfl) ?_
      refine a_as (y := nI (n)) e3 ?_
      refine a_cmpN_ge rfl rfl rfl (by omega) (by omega) (fun _ => ?_) (fun c_25 => False.elim (by omega))
      refine a_iconst (v := (-1)) rfl rfl rfl ?_
      exact a_iret rfl rfl
    · have e3 : h 84 (681 * x) = nI n := by rw [← hcn]; exact (H.2.2.2 x hx).1.1
      refine a_iload_2 rfl rfl ?_
      refine a_aload_0 rfl rfl ?_
      refine a_getr rfl rfl rfl (fun _ _ _ => rfl) rfl ?_
      refine a_sipush (v := (nI 681)) rfl rfl rfl ?_
      refine a_iload_1 rfl rfl ?_
      refine a_imulN rfl rfl ?_
      refine a_iald rfl rfl (Or.inl rfl) rfl (by omega) (by decide) ?_
      refine a_as (y := nI (n)) e3 ?_
      refine a_cmpN_ge rfl rfl rfl (by omega) (by omega) (fun _ => ?_) (fun c_32 => False.elim (by omega))
      refine a_iconst (v := (-1)) rfl rfl rfl ?_
      exact a_iret rfl rfl
  | succ j ih =>
    intro i A hi hA hx
    obtain ⟨b, A1, pC, pR, ok1, g1⟩ := p_clause (B := B) hA x i hx (by omega) hc
    have cl : ∀ (R t : Nat) (lt : Option Nat) (h : Nat → Nat → Int32), CI A B TX R t lt h → x < t ∧ h (98 + 7 * x) 3 = nI n ∧ h (98 + 7 * x + 1) i = nI (wdOf ((TX x).2.2 i).1) ∧ (has1 ((TX x).2.2 i).1 → h (98 + 7 * x + 2) i = ((TX x).2.2 i).2.1) ∧ (has2 ((TX x).2.2 i).1 → h (98 + 7 * x + 3) i = ((TX x).2.2 i).2.2) := fun R t lt h H => by
      have q := (H.2.2.2.2.2.1 x hx).2.1
      exact ⟨by have := H.2.2.1; omega, by rw [← hcn]; exact q.1, q.2 i (by omega)⟩
    cases b with
    | false =>
      refine ⟨nI i, A1, fun L t lt rt rp sw h gl R H hR => ?_, fun L t lt rt rp sw h gl H => ?_, ok1, g1⟩
      · obtain ⟨hxt, e3, ew, e1, e2⟩ := cl R t lt h H
        obtain ⟨h', lt', R', sw', C, c, H', r1, r2⟩ := pC _ _ e1 e2 L t lt rt rp sw h gl R H (by omega)
        refine ⟨h', lt', R', sw', ?_, c, H', r1, by omega⟩
        refine a_iload_3 rfl rfl ?_
        refine a_aload_2 rfl rfl ?_
        refine a_geti rfl rfl (congrArg Prod.fst (tx_t hxt)) (fun _ _ _ => rfl) ?_
        refine a_as (y := nI (n)) e3 ?_
        refine a_cmpN_ge rfl rfl rfl (by omega) (by omega) (fun c_25 => False.elim (by omega)) (fun _ => ?_)
        refine a_aload_0 rfl rfl ?_
        refine a_aload_2 rfl rfl ?_
        refine a_getr rfl rfl (congrArg Prod.fst (tx_t hxt)) (fun _ _ _ => rfl) (tx_r0 hxt) ?_
        refine a_iload_3 rfl rfl ?_
        refine a_iald rfl rfl (Or.inl (tx_1 hxt)) rfl (by omega) (by decide) ?_
        refine a_as (y := nI (wdOf ((TX x).2.2 i).1)) ew ?_
        refine a_aload_2 rfl rfl ?_
        refine a_getr rfl rfl (congrArg Prod.fst (tx_t hxt)) (fun _ _ _ => rfl) (tx_r1 hxt) ?_
        refine a_iload_3 rfl rfl ?_
        refine a_iald rfl rfl (Or.inl (tx_2 hxt)) rfl (by omega) (by decide) ?_
        refine a_aload_2 rfl rfl ?_
        refine a_getr rfl rfl (congrArg Prod.fst (tx_t hxt)) (fun _ _ _ => rfl) (tx_r2 hxt) ?_
        refine a_iload_3 rfl rfl ?_
        refine a_iald rfl rfl (Or.inl (tx_3 hxt)) rfl (by omega) (by decide) ?_
        refine a_virtI rfl rfl (C) (Nat.le_of_ble_eq_true rfl) ⟨rfl, rfl, rfl, rfl⟩ rfl rfl rfl (Nat.le_of_ble_eq_true rfl) rfl rfl ?_
        refine a_ifN_ne rfl rfl rfl (by decide) (fun c_50 => False.elim (absurd c_50 (by decide))) (fun _ => ?_)
        refine a_iload_3 rfl rfl ?_
        exact a_iret rfl rfl
      · obtain ⟨h', gl', C, c, d, H'⟩ := pR L t lt rt rp sw h gl hA H
        have e3 : h 84 (681 * x) = nI n := by rw [← hcn]; exact (H.2.2.2 x hx).1.1
        refine ⟨h', gl', ?_, c, d, H'⟩
        refine a_iload_2 rfl rfl ?_
        refine a_aload_0 rfl rfl ?_
        refine a_getr rfl rfl rfl (fun _ _ _ => rfl) rfl ?_
        refine a_sipush (v := (nI 681)) rfl rfl rfl ?_
        refine a_iload_1 rfl rfl ?_
        refine a_imulN rfl rfl ?_
        refine a_iald rfl rfl (Or.inl rfl) rfl (by omega) (by decide) ?_
        refine a_as (y := nI (n)) e3 ?_
        refine a_cmpN_ge rfl rfl rfl (by omega) (by omega) (fun c_32 => False.elim (by omega)) (fun _ => ?_)
        refine a_aload_0 rfl rfl ?_
        refine a_sipush (v := (nI 681)) rfl rfl rfl ?_
        refine a_iload_1 rfl rfl ?_
        refine a_imulN rfl rfl ?_
        refine a_iconst (v := (nI 1)) rfl rfl rfl ?_
        refine a_iaddN rfl rfl ?_
        refine a_iconst (v := (nI 3)) rfl rfl rfl ?_
        refine a_iload_2 rfl rfl ?_
        refine a_imulN rfl rfl ?_
        refine a_iaddN rfl rfl ?_
        refine a_virtI rfl rfl (C) (Nat.le_of_ble_eq_true rfl) ⟨rfl, rfl, rfl, rfl⟩ rfl rfl rfl (Nat.le_of_ble_eq_true rfl) rfl rfl ?_
        refine a_ifN_ne rfl rfl rfl (by decide) (fun c_50 => False.elim (absurd c_50 (by decide))) (fun _ => ?_)
        refine a_iload_2 rfl rfl ?_
        exact a_iret rfl rfl
    | true =>
      obtain ⟨r, A2, qC, qR, ok2, g2⟩ := ih (i + 1) A1 (by omega) ok1 (by omega)
      refine ⟨r, A2, fun L t lt rt rp sw h gl R H hR => ?_, fun L t lt rt rp sw h gl H => ?_, ok2, g2.trans g1⟩
      · obtain ⟨hxt, e3, ew, e1, e2⟩ := cl R t lt h H
        obtain ⟨h', lt', R', sw', C, c, H', r1, r2⟩ := pC _ _ e1 e2 L t lt rt rp sw h gl R H (by omega)
        obtain ⟨h2, lt2, R2, sw2, A3, c2, H2, r3, r4⟩ := qC L t lt' rt rp sw' h' gl R' H' (by omega)
        refine ⟨h2, lt2, R2, sw2, ?_, CF_trans c c2, H2, by omega, by omega⟩
        refine a_iload_3 rfl rfl ?_
        refine a_aload_2 rfl rfl ?_
        refine a_geti rfl rfl (congrArg Prod.fst (tx_t hxt)) (fun _ _ _ => rfl) ?_
        refine a_as (y := nI (n)) e3 ?_
        refine a_cmpN_ge rfl rfl rfl (by omega) (by omega) (fun c_25 => False.elim (by omega)) (fun _ => ?_)
        refine a_aload_0 rfl rfl ?_
        refine a_aload_2 rfl rfl ?_
        refine a_getr rfl rfl (congrArg Prod.fst (tx_t hxt)) (fun _ _ _ => rfl) (tx_r0 hxt) ?_
        refine a_iload_3 rfl rfl ?_
        refine a_iald rfl rfl (Or.inl (tx_1 hxt)) rfl (by omega) (by decide) ?_
        refine a_as (y := nI (wdOf ((TX x).2.2 i).1)) ew ?_
        refine a_aload_2 rfl rfl ?_
        refine a_getr rfl rfl (congrArg Prod.fst (tx_t hxt)) (fun _ _ _ => rfl) (tx_r1 hxt) ?_
        refine a_iload_3 rfl rfl ?_
        refine a_iald rfl rfl (Or.inl (tx_2 hxt)) rfl (by omega) (by decide) ?_
        refine a_aload_2 rfl rfl ?_
        refine a_getr rfl rfl (congrArg Prod.fst (tx_t hxt)) (fun _ _ _ => rfl) (tx_r2 hxt) ?_
        refine a_iload_3 rfl rfl ?_
        refine a_iald rfl rfl (Or.inl (tx_3 hxt)) rfl (by omega) (by decide) ?_
        refine a_virtI rfl rfl (C) (Nat.le_of_ble_eq_true rfl) ⟨rfl, rfl, rfl, rfl⟩ rfl rfl rfl (Nat.le_of_ble_eq_true rfl) rfl rfl ?_
        refine a_ifN_ne rfl rfl rfl (by decide) (fun _ => ?_) (fun c_50 => False.elim (absurd c_50 (by decide)))
        refine a_iinc_3 rfl rfl (nI_inc _ _) rfl ?_
        refine a_goto rfl rfl ?_
        exact A3
      · obtain ⟨h', gl', C, c, d, H'⟩ := pR L t lt rt rp sw h gl hA H
        have e3 : h 84 (681 * x) = nI n := by rw [← hcn]; exact (H.2.2.2 x hx).1.1
        obtain ⟨h2, gl2, A3, c2, d2, H2⟩ := qR L t lt rt rp sw h' gl' H'
        refine ⟨h2, gl2, ?_, CF_trans c c2, fun j hj => (d2 j hj).trans (d j hj), H2⟩
        refine a_iload_2 rfl rfl ?_
        refine a_aload_0 rfl rfl ?_
        refine a_getr rfl rfl rfl (fun _ _ _ => rfl) rfl ?_
        refine a_sipush (v := (nI 681)) rfl rfl rfl ?_
        refine a_iload_1 rfl rfl ?_
        refine a_imulN rfl rfl ?_
        refine a_iald rfl rfl (Or.inl rfl) rfl (by omega) (by decide) ?_
        refine a_as (y := nI (n)) e3 ?_
        refine a_cmpN_ge rfl rfl rfl (by omega) (by omega) (fun c_32 => False.elim (by omega)) (fun _ => ?_)
        refine a_aload_0 rfl rfl ?_
        refine a_sipush (v := (nI 681)) rfl rfl rfl ?_
        refine a_iload_1 rfl rfl ?_
        refine a_imulN rfl rfl ?_
        refine a_iconst (v := (nI 1)) rfl rfl rfl ?_
        refine a_iaddN rfl rfl ?_
        refine a_iconst (v := (nI 3)) rfl rfl rfl ?_
        refine a_iload_2 rfl rfl ?_
        refine a_imulN rfl rfl ?_
        refine a_iaddN rfl rfl ?_
        refine a_virtI rfl rfl (C) (Nat.le_of_ble_eq_true rfl) ⟨rfl, rfl, rfl, rfl⟩ rfl rfl rfl (Nat.le_of_ble_eq_true rfl) rfl rfl ?_
        refine a_ifN_ne rfl rfl rfl (by decide) (fun _ => ?_) (fun c_50 => False.elim (absurd c_50 (by decide)))
        refine a_iinc_2 rfl rfl (nI_inc _ _) rfl ?_
        refine a_goto rfl rfl ?_
        exact A3
theorem p_played (hA : okA A) (hc : ∀ x, x < gN A 1 → clsOK (TX x).2) (v : Int32) : ∃ r A', opP 1440 7 113 [.ref 7, .int v] 11 272 [.ref 81, .int v] TX A B r A' B := by
  have h4 := gN_le (m := 4) hA.1 (i := 1) (by omega) (by decide)
  have e1 : A 1 = nI (gN A 1) := gN_eq hA.1 (by omega) (by decide)
  by_cases hv : 0 ≤ v.toInt ∧ v.toInt < gN A 1
  · obtain ⟨x, hx, rfl, _⟩ := cell_of (m := gN A 1) hv.1 hv.2
    obtain ⟨r, A', pC, pR, ok, g1⟩ := l_played (B := B) (TX := TX) x (TX x).2.1 (hc x hx).1 rfl (hc x hx) (by omega) (TX x).2.1 0 A (by omega) hA hx
    have h24 := (hc x hx).1
    refine ⟨r, A', fun L t lt rt rp sw h gl R H hR => ?_, fun L t lt rt rp sw h gl ok2 H => ?_, ok, g1⟩
    · obtain ⟨h', lt', R', sw', C, c, H', r1, r2⟩ := pC L t lt rt rp sw h gl R H (by omega)
      obtain ⟨n1, n2, n3⟩ := H.2.2.1
      have er : lyR lt rt rp sw t 67 x = some (98 + 7 * x) := by
        show (bif Nat.blt x t then some (98 + 7 * x) else none) = some (98 + 7 * x)
        rw [bltT (by omega)]
        rfl
      refine ⟨h', lt', R', sw', ?_, c, H', r1, by omega⟩
      show avA _ 113 0 [.ref 7, .int (nI (x)), mvU, mvU] [] _ _
      refine a_aload_0 rfl rfl ?_
      refine a_iload_1 rfl rfl ?_
      refine a_virtI rfl rfl (e_isText (gN A 1) n2 n3 (H.2.2.2.1.2.2.2.2.2.2.2.trans e1) (nI x)) (Nat.le_of_ble_eq_true rfl) ⟨rfl, rfl, rfl, rfl⟩ rfl rfl rfl (Nat.le_of_ble_eq_true rfl) rfl rfl ?_
      refine a_ifb_ne rfl rfl rfl (fun _ => ?_) (fun c_5 => by first | exact absurd hv c_5 | exact absurd c_5 hv)
      refine a_aload_0 rfl rfl ?_
      refine a_getr rfl rfl rfl (fun _ _ _ => rfl) rfl ?_
      refine a_iload_1 rfl rfl ?_
      refine a_aald rfl rfl rfl rfl (by omega) (by decide) ?_
      refine a_is er ?_
      refine a_astore_2 rfl rfl rfl ?_
      refine a_iconst (v := (nI 0)) rfl rfl rfl ?_
      refine a_istore_3 rfl rfl rfl ?_
      exact C
    · obtain ⟨h', gl', C, c, d, H'⟩ := pR L t lt rt rp sw h gl H
      refine ⟨h', gl', ?_, c, d, H'⟩
      show avA _ 272 0 [.ref 81, .int (nI (x)), mvU] [] _ _
      refine a_iload_1 rfl rfl ?_
      refine a_iconst (v := (nI 0)) rfl rfl rfl ?_
      refine a_aload_0 rfl rfl ?_
      refine a_getr rfl rfl rfl (fun _ _ _ => rfl) rfl ?_
      refine a_iconst (v := (nI 1)) rfl rfl rfl ?_
      refine a_iald rfl rfl (Or.inl rfl) rfl (by omega) (by decide) ?_
      refine a_as (y := nI (gN A 1)) (by rw [H.1]; exact e1) ?_
      refine a_iconst (v := (nI 1)) rfl rfl rfl ?_
      refine a_isub rfl rfl ?_
      refine a_statI rfl rfl (r_isIn (nI x) (nI 0) (nI (gN A 1) - nI 1)) (Nat.le_of_ble_eq_true rfl) ⟨rfl, rfl, rfl⟩ rfl rfl rfl (Nat.le_of_ble_eq_true rfl) rfl ?_
      refine a_ifb_ne rfl rfl rfl (fun _ => ?_) (fun c_13 => by first | exact absurd (by rw [pk_sub_toInt (by omega) (by omega), show (nI 0).toInt = 0 from rfl]; omega) c_13 | exact absurd c_13 (by rw [pk_sub_toInt (by omega) (by omega), show (nI 0).toInt = 0 from rfl]; omega))
      refine a_iconst (v := (nI 0)) rfl rfl rfl ?_
      refine a_istore_2 rfl rfl rfl ?_
      exact C
  · refine ⟨-2, A, fun L t lt rt rp sw h gl R H hR => ?_, fun L t lt rt rp sw h gl ok2 H => ?_, hA, rfl⟩
    · obtain ⟨n1, n2, n3⟩ := H.2.2.1
      refine ⟨h, lt, R, sw, ?_, CF_refl, H, by omega, by omega⟩
      show avA _ 113 0 [.ref 7, .int (v), mvU, mvU] [] _ _
      refine a_aload_0 rfl rfl ?_
      refine a_iload_1 rfl rfl ?_
      refine a_virtI rfl rfl (e_isText (gN A 1) n2 n3 (H.2.2.2.1.2.2.2.2.2.2.2.trans e1) v) (Nat.le_of_ble_eq_true rfl) ⟨rfl, rfl, rfl, rfl⟩ rfl rfl rfl (Nat.le_of_ble_eq_true rfl) rfl rfl ?_
      refine a_ifb_ne rfl rfl rfl (fun c_5 => by first | exact absurd c_5 hv | exact absurd hv c_5) (fun _ => ?_)
      refine a_bipush (v := (-2)) rfl rfl rfl ?_
      exact a_iret rfl rfl
    · refine ⟨h, gl, ?_, CF_refl, fun _ _ => rfl, H⟩
      show avA _ 272 0 [.ref 81, .int (v), mvU] [] _ _
      refine a_iload_1 rfl rfl ?_
      refine a_iconst (v := (nI 0)) rfl rfl rfl ?_
      refine a_aload_0 rfl rfl ?_
      refine a_getr rfl rfl rfl (fun _ _ _ => rfl) rfl ?_
      refine a_iconst (v := (nI 1)) rfl rfl rfl ?_
      refine a_iald rfl rfl (Or.inl rfl) rfl (by omega) (by decide) ?_
      refine a_as (y := nI (gN A 1)) (by rw [H.1]; exact e1) ?_
      refine a_iconst (v := (nI 1)) rfl rfl rfl ?_
      refine a_isub rfl rfl ?_
      refine a_statI rfl rfl (r_isIn v (nI 0) (nI (gN A 1) - nI 1)) (Nat.le_of_ble_eq_true rfl) ⟨rfl, rfl, rfl⟩ rfl rfl rfl (Nat.le_of_ble_eq_true rfl) rfl ?_
      refine a_ifb_ne rfl rfl rfl (fun c_13 => by first | exact absurd c_13 (by rw [pk_sub_toInt (by omega) (by omega), show (nI 0).toInt = 0 from rfl]; omega) | exact absurd (by rw [pk_sub_toInt (by omega) (by omega), show (nI 0).toInt = 0 from rfl]; omega) c_13) (fun _ => ?_)
      refine a_bipush (v := (-2)) rfl rfl rfl ?_
      exact a_iret rfl rfl
end PL
