/-! THE REFERENCE'S LIGHTS, pays and kicks -/
theorem ltE_of (f0 : Option (E1 → Int)) (A : Nat → Int32) (ho sz : Nat) (mo : Int32) (v : Int) (hv : -1000000 ≤ v ∧ v ≤ 1000000) : ltE f0 A ho sz mo v = ltOf (ltV f0 A ho sz mo) v := by
  unfold ltE ltOf ltC
  have e : (iI v).toInt = v := iI_toInt (by omega) (by omega)
  by_cases c : 0 ≤ v ∧ v < 30
  · rw [if_pos (show inC (iI v) by unfold inC; rw [e]; exact c), if_pos c, e]
  · rw [if_neg (show ¬ inC (iI v) by unfold inC; rw [e]; exact c), if_neg c]
    rfl
theorem syV_sh (f0 : Option (E1 → Int)) (A : Nat → Int32) (ho sz s c : Nat) : syV f0 (shE A ho sz s c) ((sz : Int) - 2 * s) 15 = shV f0 A ho sz s c := by
  unfold syV shV shZ
  cases f0 <;> rfl
section LY
variable {L t : Nat} {lt rt rp : Option Nat} {sw : Bool} {h : Nat → Nat → Int32} {gl : Nat → Nat → Int64}
theorem r_phase (ho : Nat) (hh : ho ≤ 9999) (e8 : h 82 8 = nI ho) : avE 0 254 [.ref 81] (sX L t lt rt rp sw h gl) (some (.int (nI (ho / 24 % 30))), sX L t lt rt rp sw h gl) := by
  show avA _ 254 0 [.ref 81] [] _ _
  refine a_aload_0 rfl rfl ?_
  refine a_getr rfl rfl rfl (fun _ _ _ => rfl) rfl ?_
  refine a_bipush (v := (nI 8)) rfl rfl rfl ?_
  refine a_iald rfl rfl (Or.inl rfl) rfl (by omega) (by decide) ?_
  refine a_as (y := nI (ho)) e8 ?_
  refine a_bipush (v := (nI 24)) rfl rfl rfl ?_
  refine a_idivN rfl rfl (by omega) (by omega) (by omega) ?_
  refine a_bipush (v := (nI 30)) rfl rfl rfl ?_
  refine a_iremN rfl rfl (by omega) (by omega) (by omega) ?_
  exact a_iret rfl rfl
theorem r_name (ho : Nat) (sz : Int32) (hh : ho ≤ 9999) (e8 : h 82 8 = nI ho) : avE 1 258 [.ref 81, .int sz] (sX L t lt rt rp sw h gl) (none, sX L t lt rt rp sw (mvPut (mvPut (mvPut h 87 0 (nI ho)) 87 1 (nI (ho / 24 % 30))) 87 2 sz) gl) := by
  show avA _ 258 0 [.ref 81, .int (sz)] [] _ _
  refine a_aload_0 rfl rfl ?_
  refine a_getr rfl rfl rfl (fun _ _ _ => rfl) rfl ?_
  refine a_iconst (v := (nI 0)) rfl rfl rfl ?_
  refine a_aload_0 rfl rfl ?_
  refine a_getr rfl rfl rfl (fun _ _ _ => rfl) rfl ?_
  refine a_bipush (v := (nI 8)) rfl rfl rfl ?_
  refine a_iald rfl rfl (Or.inl rfl) rfl (by omega) (by decide) ?_
  refine a_as (y := nI ho) e8 ?_
  refine a_iast rfl rfl rfl rfl (by omega) (by decide) ?_
  refine a_aload_0 rfl rfl ?_
  refine a_getr rfl rfl rfl (fun _ _ _ => rfl) rfl ?_
  refine a_iconst (v := (nI 1)) rfl rfl rfl ?_
  refine a_aload_0 rfl rfl ?_
  refine a_virtI rfl rfl (r_phase ho hh e8) (Nat.le_of_ble_eq_true rfl) ⟨rfl, rfl, rfl, rfl⟩ rfl rfl rfl (Nat.le_of_ble_eq_true rfl) rfl rfl ?_
  refine a_iast rfl rfl rfl rfl (by omega) (by decide) ?_
  refine a_aload_0 rfl rfl ?_
  refine a_getr rfl rfl rfl (fun _ _ _ => rfl) rfl ?_
  refine a_iconst (v := (nI 2)) rfl rfl rfl ?_
  refine a_iload_1 rfl rfl ?_
  refine a_iast rfl rfl rfl rfl (by omega) (by decide) ?_
  exact a_vret rfl rfl
theorem r_shinesOf (tx : Int32) (c ho sz : Nat) (mo : Int32) (f0 : Option (E1 → Int)) (hc : c < 30) (hh : ho ≤ 9999) (hz : sz ≤ 15) (e8 : h 82 8 = nI ho) (hA : clOK (h 82)) (hT : txR (h 84) tx 0 f0) (hX : h 91 c = frF (frA (h 82)) mo c) : ∃ h' gl', avE 4 257 [.ref 81, .int tx, .int (nI c), .int (nI sz)] (sX L t lt rt rp sw h gl) (some (.int (nI (ltV f0 (h 82) ho sz mo c))), sX L t lt rt rp sw h' gl') ∧ CF [87, 90] h h' := by
  rcases fr_cases (frA (h 82)) mo c with q | ⟨s, hs, q⟩
  · refine ⟨h, gl, ?_, CF_refl⟩
    have e : ltV f0 (h 82) ho sz mo c = 0 := by unfold ltV; rw [if_pos q]
    rw [e]
    show avA _ 257 0 [.ref 81, .int (tx), .int (nI (c)), .int (nI (sz))] [] _ _
    refine a_aload_0 rfl rfl ?_
    refine a_getr rfl rfl rfl (fun _ _ _ => rfl) rfl ?_
    refine a_iload_2 rfl rfl ?_
    refine a_iald rfl rfl (Or.inl rfl) rfl (by omega) (by decide) ?_
    refine a_as (y := -1) (hX.trans q) ?_
    refine a_iconst (v := (-1)) rfl rfl rfl ?_
    refine a_cmp_ne rfl rfl rfl (fun c_7 => by first | exact absurd c_7 (not_not_intro rfl) | exact absurd (not_not_intro rfl) c_7) (fun _ => ?_)
    refine a_iconst (v := (nI 0)) rfl rfl rfl ?_
    exact a_iret rfl rfl
  · have ev : ltV f0 (h 82) ho sz mo c = shV f0 (h 82) ho sz s c := by
      unfold ltV
      rw [if_neg (by rw [q]; exact nI_ne_m1 (by omega)), q, nI_toInt (by omega)]
      rfl
    rw [ev]
    let h1 : Nat → Nat → Int32 := mvPut (mvPut (mvPut (mvPut (mvPut (mvPut (mvPut h 87 0 (nI ho)) 87 1 (nI (ho / 24 % 30))) 87 2 (nI sz)) 87 3 (nI s)) 87 4 (h 82 (38 + c))) 87 5 (h 82 (68 + c))) 87 6 (nI c)
    have c1 : CF [87] h h1 := CF_put (CF_put (CF_put (CF_put (CF_put (CF_put (CF_put CF_refl rfl) rfl) rfl) rfl) rfl) rfl) rfl
    have E := shE_OK (ho := ho) (sz := sz) (s := s) hA hh (by omega) hs hc
    have hn1 : ∀ j, nmOk 0 j = true → h1 87 j = iI ((shE (h 82) ho sz s c).1 j) := by
      intro j hj
      have := of_decide_eq_true hj
      have hj7 : j < 7 := by omega
      match j, hj7 with
      | 0, _ => exact (iI_nat ho).symm
      | 1, _ => exact (iI_nat (ho / 24 % 30)).symm
      | 2, _ => exact (iI_nat sz).symm
      | 3, _ => exact (iI_nat s).symm
      | 4, _ => exact iI_of _
      | 5, _ => exact iI_of _
      | 6, _ => exact (iI_nat c).symm
    obtain ⟨F, G, C⟩ := r_says (L := L) (t := t) (lt := lt) (rt := rt) (rp := rp) (sw := sw) (gl := gl) (h := h1) tx 0 15 ((sz : Int) - 2 * s) f0 (by omega) (by omega) (by omega) hT _ E (fun _ => 0) hn1 (fun q => absurd rfl q)
    rw [syV_sh] at C
    refine ⟨va_up h1 90 F, va_up gl 89 G, ?_, CF_up (CF_mono (by decide) c1) rfl⟩
    show avA _ 257 0 [.ref 81, .int (tx), .int (nI (c)), .int (nI (sz))] [] _ _
    refine a_aload_0 rfl rfl ?_
    refine a_getr rfl rfl rfl (fun _ _ _ => rfl) rfl ?_
    refine a_iload_2 rfl rfl ?_
    refine a_iald rfl rfl (Or.inl rfl) rfl (by omega) (by decide) ?_
    refine a_as (y := nI (s)) (hX.trans q) ?_
    refine a_iconst (v := (-1)) rfl rfl rfl ?_
    refine a_cmp_ne rfl rfl rfl (fun _ => ?_) (fun c_7 => by first | exact absurd (nI_ne_m1 (by omega)) c_7 | exact absurd c_7 (nI_ne_m1 (by omega)))
    refine a_aload_0 rfl rfl ?_
    refine a_iload_3 rfl rfl ?_
    refine a_virt0 rfl rfl (r_name ho (nI sz) hh e8) (Nat.le_of_ble_eq_true rfl) ⟨rfl, rfl, rfl, rfl⟩ rfl rfl rfl (Nat.le_of_ble_eq_true rfl) rfl rfl ?_
    refine a_aload_0 rfl rfl ?_
    refine a_getr rfl rfl rfl (fun _ _ _ => rfl) rfl ?_
    refine a_iconst (v := (nI 3)) rfl rfl rfl ?_
    refine a_aload_0 rfl rfl ?_
    refine a_getr rfl rfl rfl (fun _ _ _ => rfl) rfl ?_
    refine a_iload_2 rfl rfl ?_
    refine a_iald rfl rfl (Or.inl rfl) rfl (by omega) (by decide) ?_
    refine a_as (y := nI s) (hX.trans q) ?_
    refine a_iast rfl rfl rfl rfl (by omega) (by decide) ?_
    refine a_aload_0 rfl rfl ?_
    refine a_getr rfl rfl rfl (fun _ _ _ => rfl) rfl ?_
    refine a_iconst (v := (nI 4)) rfl rfl rfl ?_
    refine a_aload_0 rfl rfl ?_
    refine a_getr rfl rfl rfl (fun _ _ _ => rfl) rfl ?_
    refine a_bipush (v := (nI 38)) rfl rfl rfl ?_
    refine a_iload_2 rfl rfl ?_
    refine a_iaddN rfl rfl ?_
    refine a_iald rfl rfl (Or.inl rfl) rfl (by omega) (by decide) ?_
    refine a_iast rfl rfl rfl rfl (by omega) (by decide) ?_
    refine a_aload_0 rfl rfl ?_
    refine a_getr rfl rfl rfl (fun _ _ _ => rfl) rfl ?_
    refine a_iconst (v := (nI 5)) rfl rfl rfl ?_
    refine a_aload_0 rfl rfl ?_
    refine a_getr rfl rfl rfl (fun _ _ _ => rfl) rfl ?_
    refine a_bipush (v := (nI 68)) rfl rfl rfl ?_
    refine a_iload_2 rfl rfl ?_
    refine a_iaddN rfl rfl ?_
    refine a_iald rfl rfl (Or.inl rfl) rfl (by omega) (by decide) ?_
    refine a_iast rfl rfl rfl rfl (by omega) (by decide) ?_
    refine a_aload_0 rfl rfl ?_
    refine a_getr rfl rfl rfl (fun _ _ _ => rfl) rfl ?_
    refine a_bipush (v := (nI 6)) rfl rfl rfl ?_
    refine a_iload_2 rfl rfl ?_
    refine a_iast rfl rfl rfl rfl (by omega) (by decide) ?_
    refine a_aload_0 rfl rfl ?_
    refine a_iload_1 rfl rfl ?_
    refine a_iconst (v := (nI 0)) rfl rfl rfl ?_
    refine a_iload_3 rfl rfl ?_
    refine a_iconst (v := (nI 2)) rfl rfl rfl ?_
    refine a_aload_0 rfl rfl ?_
    refine a_getr rfl rfl rfl (fun _ _ _ => rfl) rfl ?_
    refine a_iload_2 rfl rfl ?_
    refine a_iald rfl rfl (Or.inl rfl) rfl (by omega) (by decide) ?_
    refine a_as (y := nI (s)) (hX.trans q) ?_
    refine a_imulN rfl rfl ?_
    refine a_isub rfl rfl ?_
    refine a_as (y := iI ((sz : Int) - 2 * s)) (sub_Z _ _) ?_
    refine a_bipush (v := (nI 15)) rfl rfl rfl ?_
    refine a_virtI rfl rfl (C) (Nat.le_of_ble_eq_true rfl) ⟨rfl, rfl, rfl, rfl⟩ rfl rfl rfl (Nat.le_of_ble_eq_true rfl) rfl rfl ?_
    exact a_iret rfl rfl
theorem l_lays (tx : Int32) (ho sz : Nat) (mo : Int32) (f0 : Option (E1 → Int)) (hh : ho ≤ 9999) (hz : sz ≤ 15) (m : Nat) : ∀ (c : Nat) (h : Nat → Nat → Int32) (gl : Nat → Nat → Int64), c + m = 30 → h 82 2 = tx → h 82 8 = nI ho → clOK (h 82) → txR (h 84) tx 0 f0 → (∀ c, c < 30 → h 91 c = frF (frA (h 82)) mo c) → (∀ k, k < c → h 88 k = nI (ltV f0 (h 82) ho sz mo k)) → ∃ h' gl', avA 5 256 7 [.ref 81, .int mo, .int (nI sz), .int (nI c)] [] (sX L t lt rt rp sw h gl) (none, sX L t lt rt rp sw h' gl') ∧ CF [87, 88, 90] h h' ∧ ∀ k, k < 30 → h' 88 k = nI (ltV f0 (h 82) ho sz mo k) := by
  induction m with
  | zero =>
    intro c h gl hc e2 e8 hA hT hX hk
    have e : c = 30 := by omega
    subst e
    refine ⟨h, gl, ?_, CF_refl, hk⟩
    refine a_iload_3 rfl rfl ?_
    refine a_bipush (v := (nI 30)) rfl rfl rfl ?_
    refine a_cmpN_ge rfl rfl rfl (by omega) (by omega) (fun _ => ?_) (fun c_10 => absurd c_10 (by decide))
    exact a_vret rfl rfl
  | succ m ih =>
    intro c h gl hc e2 e8 hA hT hX hk
    obtain ⟨h1, gl1, C, c1⟩ := r_shinesOf (L := L) (t := t) (lt := lt) (rt := rt) (rp := rp) (sw := sw) (gl := gl) tx c ho sz mo f0 (by omega) hh hz e8 hA hT (hX c (by omega))
    have q82 : h1 82 = h 82 := c1 82 rfl
    have q84 : h1 84 = h 84 := c1 84 rfl
    have q88 : h1 88 = h 88 := c1 88 rfl
    have q91 : h1 91 = h 91 := c1 91 rfl
    obtain ⟨h', gl', A, c2, k2⟩ := ih (c + 1) (mvPut h1 88 c (nI (ltV f0 (h 82) ho sz mo c))) gl1 (by omega) (by show h1 82 2 = tx; rw [q82]; exact e2) (by show h1 82 8 = nI ho; rw [q82]; exact e8) (by show clOK (h1 82); rw [q82]; exact hA) (by show txR (h1 84) tx 0 f0; rw [q84]; exact hT) (by show ∀ c, c < 30 → h1 91 c = frF (frA (h1 82)) mo c; rw [q82, q91]; exact hX) (by
      show ∀ k, k < c + 1 → va_up (h1 88) c (nI (ltV f0 (h 82) ho sz mo c)) k = nI (ltV f0 (h1 82) ho sz mo k)
      intro k hk1
      rw [q82, q88]
      by_cases e : k = c
      · subst e; rw [va_up_self]
      · rw [va_up_ne _ _ e]; exact hk k (by omega))
    refine ⟨h', gl', ?_, CF_trans (CF_mono (by decide) c1) (CF_trans (CF_put CF_refl rfl) c2), ?_⟩
    · refine a_iload_3 rfl rfl ?_
      refine a_bipush (v := (nI 30)) rfl rfl rfl ?_
      refine a_cmpN_ge rfl rfl rfl (by omega) (by omega) (fun c_10 => False.elim (by omega)) (fun _ => ?_)
      refine a_aload_0 rfl rfl ?_
      refine a_getr rfl rfl rfl (fun _ _ _ => rfl) rfl ?_
      refine a_iload_3 rfl rfl ?_
      refine a_aload_0 rfl rfl ?_
      refine a_aload_0 rfl rfl ?_
      refine a_getr rfl rfl rfl (fun _ _ _ => rfl) rfl ?_
      refine a_iconst (v := (nI 2)) rfl rfl rfl ?_
      refine a_iald rfl rfl (Or.inl rfl) rfl (by omega) (by decide) ?_
      refine a_as (y := tx) e2 ?_
      refine a_iload_3 rfl rfl ?_
      refine a_iload_2 rfl rfl ?_
      refine a_virtI rfl rfl (C) (Nat.le_of_ble_eq_true rfl) ⟨rfl, rfl, rfl, rfl⟩ rfl rfl rfl (Nat.le_of_ble_eq_true rfl) rfl rfl ?_
      refine a_iast rfl rfl rfl rfl (by omega) (by decide) ?_
      refine a_iinc_3 rfl rfl (nI_inc _ _) rfl ?_
      refine a_goto rfl rfl ?_
      exact A
    · have e : (mvPut h1 88 c (nI (ltV f0 (h 82) ho sz mo c))) 82 = h 82 := q82
      rw [e] at k2
      exact k2
theorem r_layLights (ho sz : Nat) (mo : Int32) (f0 : Option (E1 → Int)) (hh : ho ≤ 9999) (hz : sz ≤ 15) (e8 : h 82 8 = nI ho) (hA : clOK (h 82)) (hT : txR (h 84) (h 82 2) 0 f0) : ∃ h' gl', avE 5 256 [.ref 81, .int mo, .int (nI sz)] (sX L t lt rt rp sw h gl) (none, sX L t lt rt rp sw h' gl') ∧ CF [87, 88, 90, 91] h h' ∧ (∀ k, k < 30 → h' 88 k = nI (ltV f0 (h 82) ho sz mo k)) ∧ ∀ k, k < 30 → h' 91 k = frF (frA (h 82)) mo k := by
  obtain ⟨h', gl', A, c, k⟩ := l_lays (L := L) (t := t) (lt := lt) (rt := rt) (rp := rp) (sw := sw) (h 82 2) ho sz mo f0 hh hz 30 0 (va_up h 91 (rw1 30 (farA (h 82) mo) (h 91))) gl rfl rfl e8 hA hT (fun c hc => rw1_lt hc) (fun k hk => absurd hk (by omega))
  refine ⟨h', gl', ?_, CF_trans (CF_up CF_refl rfl) (CF_mono (by decide) c), k, fun k hk => ?_⟩
  · show avA _ 256 0 [.ref 81, .int (mo), .int (nI (sz)), mvU] [] _ _
    refine a_aload_0 rfl rfl ?_
    refine a_iload_1 rfl rfl ?_
    refine a_virt0 rfl rfl (r_layFar mo) (Nat.le_of_ble_eq_true rfl) ⟨rfl, rfl, rfl, rfl⟩ rfl rfl rfl (Nat.le_of_ble_eq_true rfl) rfl rfl ?_
    refine a_iconst (v := (nI 0)) rfl rfl rfl ?_
    refine a_istore_3 rfl rfl rfl ?_
    exact A
  · rw [c 91 rfl]
    exact rw1_lt hk
theorem r_layNow (ho : Nat) (f0 : Option (E1 → Int)) (hh : ho ≤ 9999) (e8 : h 82 8 = nI ho) (hA : clOK (h 82)) (hT : txR (h 84) (h 82 2) 0 f0) : ∃ h' gl', avE 6 253 [.ref 81] (sX L t lt rt rp sw h gl) (none, sX L t lt rt rp sw h' gl') ∧ CF [87, 88, 90, 91] h h' ∧ (∀ k, k < 30 → h' 88 k = nI (ltV f0 (h 82) ho (szN ho) (h 82 9) k)) ∧ ∀ k, k < 30 → h' 91 k = frF (frA (h 82)) (h 82 9) k := by
  obtain ⟨h', gl', C, c, k⟩ := r_layLights (L := L) (t := t) (lt := lt) (rt := rt) (rp := rp) (sw := sw) (gl := gl) ho (szN ho) (h 82 9) f0 hh (szN_le ho) e8 hA hT
  refine ⟨h', gl', ?_, c, k⟩
  show avA _ 253 0 [.ref 81] [] _ _
  refine a_aload_0 rfl rfl ?_
  refine a_aload_0 rfl rfl ?_
  refine a_getr rfl rfl rfl (fun _ _ _ => rfl) rfl ?_
  refine a_bipush (v := (nI 9)) rfl rfl rfl ?_
  refine a_iald rfl rfl (Or.inl rfl) rfl (by omega) (by decide) ?_
  refine a_aload_0 rfl rfl ?_
  refine a_virtI rfl rfl (r_phase ho hh e8) (Nat.le_of_ble_eq_true rfl) ⟨rfl, rfl, rfl, rfl⟩ rfl rfl rfl (Nat.le_of_ble_eq_true rfl) rfl rfl ?_
  refine a_statI rfl rfl (r_sizeOf (ho / 24 % 30) (by omega)) (Nat.le_of_ble_eq_true rfl) ⟨rfl, rfl, rfl⟩ rfl rfl rfl (Nat.le_of_ble_eq_true rfl) rfl ?_
  refine a_as (y := nI (szN ho)) rfl ?_
  refine a_virt0 rfl rfl (C) (Nat.le_of_ble_eq_true rfl) ⟨rfl, rfl, rfl, rfl⟩ rfl rfl rfl (Nat.le_of_ble_eq_true rfl) rfl rfl ?_
  exact a_vret rfl rfl
theorem r_paysNow (ho : Nat) (fl : Nat → Option (E1 → Int)) (hh : ho ≤ 9999) (e8 : h 82 8 = nI ho) (hA : clOK (h 82)) (hm : h 82 9 = -1 ∨ inC (h 82 9)) (hsi : 0 ≤ (h 82 10).toInt ∧ (h 82 10).toInt ≤ 9999) (hT : ∀ s, s < 3 → txR (h 84) (h 82 2) s (fl s)) : ∃ h' gl', avE 7 252 [.ref 81] (sX L t lt rt rp sw h gl) (some (.int (nI (pyV fl (h 82) ho (szN ho) (h 82 9) (h 82 10).toInt))), sX L t lt rt rp sw h' gl') ∧ CF [87, 88, 90, 91] h h' ∧ (∀ k, k < 30 → h' 88 k = nI (ltV (fl 0) (h 82) ho (szN ho) (h 82 9) k)) := by
  obtain ⟨h1, gl1, C1, c1, k1, _⟩ := r_layNow (L := L) (t := t) (lt := lt) (rt := rt) (rp := rp) (sw := sw) (gl := gl) ho (fl 0) hh e8 hA (hT 0 (by omega))
  have q82 : h1 82 = h 82 := c1 82 rfl
  have q84 : h1 84 = h 84 := c1 84 rfl
  have hz := szN_le ho
  let h2 : Nat → Nat → Int32 := mvPut (mvPut (mvPut (mvPut (mvPut h1 87 0 (nI ho)) 87 1 (nI (ho / 24 % 30))) 87 2 (nI (szN ho))) 87 7 (h 82 10)) 87 8 (nI (bdV (h 82) (h 82 9)))
  have c2 : CF [87] h1 h2 := CF_put (CF_put (CF_put (CF_put (CF_put CF_refl rfl) rfl) rfl) rfl) rfl
  have hE : eOK (pyE (fl 0) (h 82) ho (szN ho) (h 82 9) (h 82 10).toInt) := pyE_OK hh (by omega) hsi
  have hn1 : ∀ j, nmOk 1 j = true → h2 87 j = iI ((pyE (fl 0) (h 82) ho (szN ho) (h 82 9) (h 82 10).toInt).1 j) := by
    intro j hj
    have := of_decide_eq_true hj
    have hj9 : j < 9 := by omega
    match j, hj9 with
    | 0, _ => exact (iI_nat ho).symm
    | 1, _ => exact (iI_nat (ho / 24 % 30)).symm
    | 2, _ => exact (iI_nat (szN ho)).symm
    | 3, _ => omega
    | 4, _ => omega
    | 5, _ => omega
    | 6, _ => omega
    | 7, _ => exact iI_of _
    | 8, _ => exact (iI_nat (bdV (h 82) (h 82 9))).symm
  obtain ⟨F, G, C⟩ := r_says (L := L) (t := t) (lt := lt) (rt := rt) (rp := rp) (sw := sw) (gl := gl1) (h := h2) (h 82 2) 1 99 1 (fl 1) (by omega) (by omega) (by omega) (by show txR (h1 84) _ _ _; rw [q84]; exact hT 1 (by omega)) _ hE (ltV (fl 0) (h 82) ho (szN ho) (h 82 9)) hn1 (fun _ => ⟨fun c hc => ⟨by show h1 88 c = _; exact k1 c hc, ltV_le _ _ _ _ _ _⟩, fun v hv => ltE_of _ _ _ _ _ _ hv⟩)
  have ev : syV (fl 1) (pyE (fl 0) (h 82) ho (szN ho) (h 82 9) (h 82 10).toInt) 1 99 = pyV fl (h 82) ho (szN ho) (h 82 9) (h 82 10).toInt := by
    unfold syV pyV
    cases fl 1 <;> rfl
  rw [ev] at C
  refine ⟨va_up h2 90 F, va_up gl1 89 G, ?_, CF_trans c1 (CF_up (CF_mono (by decide) c2) rfl), fun k hk => k1 k hk⟩
  have e8' : h1 82 8 = nI ho := by rw [q82]; exact e8
  have e9' : h1 82 9 = h 82 9 := by rw [q82]
  have e10' : h1 82 10 = h 82 10 := by rw [q82]
  have e2' : h1 82 2 = h 82 2 := by rw [q82]
  by_cases h0 : h 82 9 = -1
  · have eb : bdV (h 82) (h 82 9) = 0 := by unfold bdV; rw [if_neg (fun q => q.1 h0)]
    simp only [h2] at C ⊢
    rw [eb] at C ⊢
    show avA _ 252 0 [.ref 81] [] _ _
    refine a_aload_0 rfl rfl ?_
    refine a_virt0 rfl rfl (C1) (Nat.le_of_ble_eq_true rfl) ⟨rfl, rfl, rfl, rfl⟩ rfl rfl rfl (Nat.le_of_ble_eq_true rfl) rfl rfl ?_
    refine a_aload_0 rfl rfl ?_
    refine a_aload_0 rfl rfl ?_
    refine a_virtI rfl rfl (r_phase ho hh e8') (Nat.le_of_ble_eq_true rfl) ⟨rfl, rfl, rfl, rfl⟩ rfl rfl rfl (Nat.le_of_ble_eq_true rfl) rfl rfl ?_
    refine a_statI rfl rfl (r_sizeOf (ho / 24 % 30) (by omega)) (Nat.le_of_ble_eq_true rfl) ⟨rfl, rfl, rfl⟩ rfl rfl rfl (Nat.le_of_ble_eq_true rfl) rfl ?_
    refine a_as (y := nI (szN ho)) rfl ?_
    refine a_virt0 rfl rfl (r_name ho (nI (szN ho)) hh e8') (Nat.le_of_ble_eq_true rfl) ⟨rfl, rfl, rfl, rfl⟩ rfl rfl rfl (Nat.le_of_ble_eq_true rfl) rfl rfl ?_
    refine a_aload_0 rfl rfl ?_
    refine a_getr rfl rfl rfl (fun _ _ _ => rfl) rfl ?_
    refine a_bipush (v := (nI 7)) rfl rfl rfl ?_
    refine a_aload_0 rfl rfl ?_
    refine a_getr rfl rfl rfl (fun _ _ _ => rfl) rfl ?_
    refine a_bipush (v := (nI 10)) rfl rfl rfl ?_
    refine a_iald rfl rfl (Or.inl rfl) rfl (by omega) (by decide) ?_
    refine a_as (y := h 82 10) e10' ?_
    refine a_iast rfl rfl rfl rfl (by omega) (by decide) ?_
    refine a_aload_0 rfl rfl ?_
    refine a_getr rfl rfl rfl (fun _ _ _ => rfl) rfl ?_
    refine a_bipush (v := (nI 8)) rfl rfl rfl ?_
    refine a_aload_0 rfl rfl ?_
    refine a_getr rfl rfl rfl (fun _ _ _ => rfl) rfl ?_
    refine a_bipush (v := (nI 9)) rfl rfl rfl ?_
    refine a_iald rfl rfl (Or.inl rfl) rfl (by omega) (by decide) ?_
    refine a_as (y := -1) (e9'.trans h0) ?_
    refine a_iconst (v := (-1)) rfl rfl rfl ?_
    refine a_cmp_eq rfl rfl rfl (fun _ => ?_) (fun c_43 => by first | exact absurd rfl c_43 | exact absurd c_43 rfl)
    refine a_iconst (v := (nI 0)) rfl rfl rfl ?_
    refine a_iast rfl rfl rfl rfl (by omega) (by decide) ?_
    refine a_aload_0 rfl rfl ?_
    refine a_aload_0 rfl rfl ?_
    refine a_getr rfl rfl rfl (fun _ _ _ => rfl) rfl ?_
    refine a_iconst (v := (nI 2)) rfl rfl rfl ?_
    refine a_iald rfl rfl (Or.inl rfl) rfl (by omega) (by decide) ?_
    refine a_as (y := h 82 2) e2' ?_
    refine a_iconst (v := (nI 1)) rfl rfl rfl ?_
    refine a_iconst (v := iI (1)) rfl rfl rfl ?_
    refine a_bipush (v := (nI 99)) rfl rfl rfl ?_
    refine a_virtI rfl rfl (C) (Nat.le_of_ble_eq_true rfl) ⟨rfl, rfl, rfl, rfl⟩ rfl rfl rfl (Nat.le_of_ble_eq_true rfl) rfl rfl ?_
    exact a_iret rfl rfl
  · have hin : inC (h 82 9) := hm.elim (fun q => absurd q h0) id
    obtain ⟨n, hn, en⟩ := inC_of hin
    have t0 : (nI n).toInt.toNat = n := by rw [nI_toInt (by omega)]; rfl
    by_cases hk : h 82 (38 + n) = nI 3
    · have eb : bdV (h 82) (h 82 9) = 1 := by unfold bdV; rw [en, if_pos ⟨nI_ne_m1 (by omega), by rw [t0]; exact hk⟩]
      simp only [h2] at C ⊢
      rw [eb] at C ⊢
      show avA _ 252 0 [.ref 81] [] _ _
      refine a_aload_0 rfl rfl ?_
      refine a_virt0 rfl rfl (C1) (Nat.le_of_ble_eq_true rfl) ⟨rfl, rfl, rfl, rfl⟩ rfl rfl rfl (Nat.le_of_ble_eq_true rfl) rfl rfl ?_
      refine a_aload_0 rfl rfl ?_
      refine a_aload_0 rfl rfl ?_
      refine a_virtI rfl rfl (r_phase ho hh e8') (Nat.le_of_ble_eq_true rfl) ⟨rfl, rfl, rfl, rfl⟩ rfl rfl rfl (Nat.le_of_ble_eq_true rfl) rfl rfl ?_
      refine a_statI rfl rfl (r_sizeOf (ho / 24 % 30) (by omega)) (Nat.le_of_ble_eq_true rfl) ⟨rfl, rfl, rfl⟩ rfl rfl rfl (Nat.le_of_ble_eq_true rfl) rfl ?_
      refine a_as (y := nI (szN ho)) rfl ?_
      refine a_virt0 rfl rfl (r_name ho (nI (szN ho)) hh e8') (Nat.le_of_ble_eq_true rfl) ⟨rfl, rfl, rfl, rfl⟩ rfl rfl rfl (Nat.le_of_ble_eq_true rfl) rfl rfl ?_
      refine a_aload_0 rfl rfl ?_
      refine a_getr rfl rfl rfl (fun _ _ _ => rfl) rfl ?_
      refine a_bipush (v := (nI 7)) rfl rfl rfl ?_
      refine a_aload_0 rfl rfl ?_
      refine a_getr rfl rfl rfl (fun _ _ _ => rfl) rfl ?_
      refine a_bipush (v := (nI 10)) rfl rfl rfl ?_
      refine a_iald rfl rfl (Or.inl rfl) rfl (by omega) (by decide) ?_
      refine a_as (y := h 82 10) e10' ?_
      refine a_iast rfl rfl rfl rfl (by omega) (by decide) ?_
      refine a_aload_0 rfl rfl ?_
      refine a_getr rfl rfl rfl (fun _ _ _ => rfl) rfl ?_
      refine a_bipush (v := (nI 8)) rfl rfl rfl ?_
      refine a_aload_0 rfl rfl ?_
      refine a_getr rfl rfl rfl (fun _ _ _ => rfl) rfl ?_
      refine a_bipush (v := (nI 9)) rfl rfl rfl ?_
      refine a_iald rfl rfl (Or.inl rfl) rfl (by omega) (by decide) ?_
      refine a_as (y := nI n) (e9'.trans en) ?_
      refine a_iconst (v := (-1)) rfl rfl rfl ?_
      refine a_cmp_eq rfl rfl rfl (fun c_43 => by first | exact absurd c_43 (nI_ne_m1 (by omega)) | exact absurd (nI_ne_m1 (by omega)) c_43) (fun _ => ?_)
      refine a_aload_0 rfl rfl ?_
      refine a_getr rfl rfl rfl (fun _ _ _ => rfl) rfl ?_
      refine a_bipush (v := (nI 38)) rfl rfl rfl ?_
      refine a_aload_0 rfl rfl ?_
      refine a_getr rfl rfl rfl (fun _ _ _ => rfl) rfl ?_
      refine a_bipush (v := (nI 9)) rfl rfl rfl ?_
      refine a_iald rfl rfl (Or.inl rfl) rfl (by omega) (by decide) ?_
      refine a_as (y := nI (n)) (e9'.trans en) ?_
      refine a_iaddN rfl rfl ?_
      refine a_iald rfl rfl (Or.inl rfl) rfl (by omega) (by decide) ?_
      refine a_as (y := nI 3) (show h1 82 (38 + n) = nI 3 by rw [q82]; exact hk) ?_
      refine a_iconst (v := (nI 3)) rfl rfl rfl ?_
      refine a_cmp_ne rfl rfl rfl (fun c_62 => by first | exact absurd c_62 (not_not_intro rfl) | exact absurd (not_not_intro rfl) c_62) (fun _ => ?_)
      refine a_iconst (v := (nI 1)) rfl rfl rfl ?_
      refine a_goto rfl rfl ?_
      refine a_iast rfl rfl rfl rfl (by omega) (by decide) ?_
      refine a_aload_0 rfl rfl ?_
      refine a_aload_0 rfl rfl ?_
      refine a_getr rfl rfl rfl (fun _ _ _ => rfl) rfl ?_
      refine a_iconst (v := (nI 2)) rfl rfl rfl ?_
      refine a_iald rfl rfl (Or.inl rfl) rfl (by omega) (by decide) ?_
      refine a_as (y := h 82 2) e2' ?_
      refine a_iconst (v := (nI 1)) rfl rfl rfl ?_
      refine a_iconst (v := iI (1)) rfl rfl rfl ?_
      refine a_bipush (v := (nI 99)) rfl rfl rfl ?_
      refine a_virtI rfl rfl (C) (Nat.le_of_ble_eq_true rfl) ⟨rfl, rfl, rfl, rfl⟩ rfl rfl rfl (Nat.le_of_ble_eq_true rfl) rfl rfl ?_
      exact a_iret rfl rfl
    · have eb : bdV (h 82) (h 82 9) = 0 := by unfold bdV; rw [en, if_neg (fun q => hk (by have := q.2; rw [t0] at this; exact this))]
      simp only [h2] at C ⊢
      rw [eb] at C ⊢
      show avA _ 252 0 [.ref 81] [] _ _
      refine a_aload_0 rfl rfl ?_
      refine a_virt0 rfl rfl (C1) (Nat.le_of_ble_eq_true rfl) ⟨rfl, rfl, rfl, rfl⟩ rfl rfl rfl (Nat.le_of_ble_eq_true rfl) rfl rfl ?_
      refine a_aload_0 rfl rfl ?_
      refine a_aload_0 rfl rfl ?_
      refine a_virtI rfl rfl (r_phase ho hh e8') (Nat.le_of_ble_eq_true rfl) ⟨rfl, rfl, rfl, rfl⟩ rfl rfl rfl (Nat.le_of_ble_eq_true rfl) rfl rfl ?_
      refine a_statI rfl rfl (r_sizeOf (ho / 24 % 30) (by omega)) (Nat.le_of_ble_eq_true rfl) ⟨rfl, rfl, rfl⟩ rfl rfl rfl (Nat.le_of_ble_eq_true rfl) rfl ?_
      refine a_as (y := nI (szN ho)) rfl ?_
      refine a_virt0 rfl rfl (r_name ho (nI (szN ho)) hh e8') (Nat.le_of_ble_eq_true rfl) ⟨rfl, rfl, rfl, rfl⟩ rfl rfl rfl (Nat.le_of_ble_eq_true rfl) rfl rfl ?_
      refine a_aload_0 rfl rfl ?_
      refine a_getr rfl rfl rfl (fun _ _ _ => rfl) rfl ?_
      refine a_bipush (v := (nI 7)) rfl rfl rfl ?_
      refine a_aload_0 rfl rfl ?_
      refine a_getr rfl rfl rfl (fun _ _ _ => rfl) rfl ?_
      refine a_bipush (v := (nI 10)) rfl rfl rfl ?_
      refine a_iald rfl rfl (Or.inl rfl) rfl (by omega) (by decide) ?_
      refine a_as (y := h 82 10) e10' ?_
      refine a_iast rfl rfl rfl rfl (by omega) (by decide) ?_
      refine a_aload_0 rfl rfl ?_
      refine a_getr rfl rfl rfl (fun _ _ _ => rfl) rfl ?_
      refine a_bipush (v := (nI 8)) rfl rfl rfl ?_
      refine a_aload_0 rfl rfl ?_
      refine a_getr rfl rfl rfl (fun _ _ _ => rfl) rfl ?_
      refine a_bipush (v := (nI 9)) rfl rfl rfl ?_
      refine a_iald rfl rfl (Or.inl rfl) rfl (by omega) (by decide) ?_
      refine a_as (y := nI n) (e9'.trans en) ?_
      refine a_iconst (v := (-1)) rfl rfl rfl ?_
      refine a_cmp_eq rfl rfl rfl (fun c_43 => by first | exact absurd c_43 (nI_ne_m1 (by omega)) | exact absurd (nI_ne_m1 (by omega)) c_43) (fun _ => ?_)
      refine a_aload_0 rfl rfl ?_
      refine a_getr rfl rfl rfl (fun _ _ _ => rfl) rfl ?_
      refine a_bipush (v := (nI 38)) rfl rfl rfl ?_
      refine a_aload_0 rfl rfl ?_
      refine a_getr rfl rfl rfl (fun _ _ _ => rfl) rfl ?_
      refine a_bipush (v := (nI 9)) rfl rfl rfl ?_
      refine a_iald rfl rfl (Or.inl rfl) rfl (by omega) (by decide) ?_
      refine a_as (y := nI (n)) (e9'.trans en) ?_
      refine a_iaddN rfl rfl ?_
      refine a_iald rfl rfl (Or.inl rfl) rfl (by omega) (by decide) ?_
      refine a_as (y := h 82 (38 + n)) (show h1 82 (38 + n) = h 82 (38 + n) by rw [q82]) ?_
      refine a_iconst (v := (nI 3)) rfl rfl rfl ?_
      refine a_cmp_ne rfl rfl rfl (fun _ => ?_) (fun c_62 => by first | exact absurd hk c_62 | exact absurd c_62 hk)
      refine a_iconst (v := (nI 0)) rfl rfl rfl ?_
      refine a_iast rfl rfl rfl rfl (by omega) (by decide) ?_
      refine a_aload_0 rfl rfl ?_
      refine a_aload_0 rfl rfl ?_
      refine a_getr rfl rfl rfl (fun _ _ _ => rfl) rfl ?_
      refine a_iconst (v := (nI 2)) rfl rfl rfl ?_
      refine a_iald rfl rfl (Or.inl rfl) rfl (by omega) (by decide) ?_
      refine a_as (y := h 82 2) e2' ?_
      refine a_iconst (v := (nI 1)) rfl rfl rfl ?_
      refine a_iconst (v := iI (1)) rfl rfl rfl ?_
      refine a_bipush (v := (nI 99)) rfl rfl rfl ?_
      refine a_virtI rfl rfl (C) (Nat.le_of_ble_eq_true rfl) ⟨rfl, rfl, rfl, rfl⟩ rfl rfl rfl (Nat.le_of_ble_eq_true rfl) rfl rfl ?_
      exact a_iret rfl rfl
/-- kicksOf of the reference; the lights are those of cells A -/
theorem r_kicksOf (A : Nat → Int32) (b ho : Nat) (mo : Int32) (fl : Nat → Option (E1 → Int)) (hb : b < 5) (hh : ho ≤ 9999) (e8 : h 82 8 = nI ho) (hmd : 0 ≤ (h 82 (14 + 5 * b)).toInt ∧ (h 82 (14 + 5 * b)).toInt ≤ 9) (hat : inC (h 82 (13 + 5 * b))) (hLT : ∀ k, k < 30 → h 88 k = nI (ltV (fl 0) A ho (szN ho) mo k)) (hT : txR (h 84) (h 82 2) 2 (fl 2)) : ∃ h' gl', avE 4 269 [.ref 81, .int (nI b)] (sX L t lt rt rp sw h gl) (some (.int (nI (kcV fl A ho (szN ho) mo (h 82 (14 + 5 * b)) (h 82 (13 + 5 * b)) b))), sX L t lt rt rp sw h' gl') ∧ CF [87, 90] h h' := by
  obtain ⟨c, hc, ec⟩ := inC_of hat
  have hz := szN_le ho
  have hl15 := ltV_le (fl 0) A ho (szN ho) mo c
  let h1 : Nat → Nat → Int32 := mvPut (mvPut (mvPut (mvPut (mvPut (mvPut h 87 0 (nI ho)) 87 1 (nI (ho / 24 % 30))) 87 2 (nI (szN ho))) 87 6 (nI c)) 87 9 (h 82 (14 + 5 * b))) 87 10 (nI b)
  have c1 : CF [87] h h1 := CF_put (CF_put (CF_put (CF_put (CF_put (CF_put CF_refl rfl) rfl) rfl) rfl) rfl) rfl
  rw [ec]
  have hE : eOK (kcE (fl 0) A ho (szN ho) mo (h 82 (14 + 5 * b)) (nI c) b) := kcE_OK hh (by omega) (by omega) (by rw [nI_toInt (by omega)]; omega) (by omega)
  have hn1 : ∀ j, nmOk 2 j = true → h1 87 j = iI ((kcE (fl 0) A ho (szN ho) mo (h 82 (14 + 5 * b)) (nI c) b).1 j) := by
    intro j hj
    have := of_decide_eq_true hj
    have hj9 : j < 11 := by omega
    match j, hj9 with
    | 0, _ => exact (iI_nat ho).symm
    | 1, _ => exact (iI_nat (ho / 24 % 30)).symm
    | 2, _ => exact (iI_nat (szN ho)).symm
    | 3, _ => omega
    | 4, _ => omega
    | 5, _ => omega
    | 6, _ => exact iI_of _
    | 7, _ => omega
    | 8, _ => omega
    | 9, _ => exact iI_of _
    | 10, _ => exact (iI_nat b).symm
  obtain ⟨F, G, C⟩ := r_says (L := L) (t := t) (lt := lt) (rt := rt) (rp := rp) (sw := sw) (gl := gl) (h := h1) (h 82 2) 2 10 ((ltV (fl 0) A ho (szN ho) mo c / 3 : Nat) : Int) (fl 2) (by omega) (by omega) (by omega) hT _ hE (ltV (fl 0) A ho (szN ho) mo) hn1 (fun _ => ⟨fun c hc => ⟨hLT c hc, ltV_le _ _ _ _ _ _⟩, fun v hv => ltE_of _ _ _ _ _ _ hv⟩)
  have ev : syV (fl 2) (kcE (fl 0) A ho (szN ho) mo (h 82 (14 + 5 * b)) (nI c) b) ((ltV (fl 0) A ho (szN ho) mo c / 3 : Nat) : Int) 10 = kcV fl A ho (szN ho) mo (h 82 (14 + 5 * b)) (nI c) b := by
    unfold syV kcV
    cases fl 2
    · show clN _ 10 = ltC (fl 0) A ho (szN ho) mo (nI c) / 3
      rw [ltC_N _ _ _ _ _ hc]
      unfold clN
      omega
    · rfl
  rw [ev] at C
  refine ⟨va_up h1 90 F, va_up gl 89 G, ?_, CF_up (CF_mono (by decide) c1) rfl⟩
  show avA _ 269 0 [.ref 81, .int (nI (b))] [] _ _
  refine a_aload_0 rfl rfl ?_
  refine a_aload_0 rfl rfl ?_
  refine a_virtI rfl rfl (r_phase ho hh e8) (Nat.le_of_ble_eq_true rfl) ⟨rfl, rfl, rfl, rfl⟩ rfl rfl rfl (Nat.le_of_ble_eq_true rfl) rfl rfl ?_
  refine a_statI rfl rfl (r_sizeOf (ho / 24 % 30) (by omega)) (Nat.le_of_ble_eq_true rfl) ⟨rfl, rfl, rfl⟩ rfl rfl rfl (Nat.le_of_ble_eq_true rfl) rfl ?_
  refine a_as (y := nI (szN ho)) rfl ?_
  refine a_virt0 rfl rfl (r_name ho (nI (szN ho)) hh e8) (Nat.le_of_ble_eq_true rfl) ⟨rfl, rfl, rfl, rfl⟩ rfl rfl rfl (Nat.le_of_ble_eq_true rfl) rfl rfl ?_
  refine a_aload_0 rfl rfl ?_
  refine a_getr rfl rfl rfl (fun _ _ _ => rfl) rfl ?_
  refine a_bipush (v := (nI 6)) rfl rfl rfl ?_
  refine a_aload_0 rfl rfl ?_
  refine a_iload_1 rfl rfl ?_
  refine a_iconst (v := (nI 0)) rfl rfl rfl ?_
  refine a_virtI rfl rfl (r_get b 0 hb (by omega)) (Nat.le_of_ble_eq_true rfl) ⟨rfl, rfl, rfl, rfl⟩ rfl rfl rfl (Nat.le_of_ble_eq_true rfl) rfl rfl ?_
  refine a_as (y := nI c) ec ?_
  refine a_iast rfl rfl rfl rfl (by omega) (by decide) ?_
  refine a_aload_0 rfl rfl ?_
  refine a_getr rfl rfl rfl (fun _ _ _ => rfl) rfl ?_
  refine a_bipush (v := (nI 9)) rfl rfl rfl ?_
  refine a_aload_0 rfl rfl ?_
  refine a_iload_1 rfl rfl ?_
  refine a_iconst (v := (nI 1)) rfl rfl rfl ?_
  refine a_virtI rfl rfl (r_get b 1 hb (by omega)) (Nat.le_of_ble_eq_true rfl) ⟨rfl, rfl, rfl, rfl⟩ rfl rfl rfl (Nat.le_of_ble_eq_true rfl) rfl rfl ?_
  refine a_as (y := h 82 (14 + 5 * b)) (show h 82 (13 + 5 * b + 1) = h 82 (14 + 5 * b) from congrArg (h 82) (by omega)) ?_
  refine a_iast rfl rfl rfl rfl (by omega) (by decide) ?_
  refine a_aload_0 rfl rfl ?_
  refine a_getr rfl rfl rfl (fun _ _ _ => rfl) rfl ?_
  refine a_bipush (v := (nI 10)) rfl rfl rfl ?_
  refine a_iload_1 rfl rfl ?_
  refine a_iast rfl rfl rfl rfl (by omega) (by decide) ?_
  refine a_aload_0 rfl rfl ?_
  refine a_aload_0 rfl rfl ?_
  refine a_getr rfl rfl rfl (fun _ _ _ => rfl) rfl ?_
  refine a_iconst (v := (nI 2)) rfl rfl rfl ?_
  refine a_iald rfl rfl (Or.inl rfl) rfl (by omega) (by decide) ?_
  refine a_iconst (v := (nI 2)) rfl rfl rfl ?_
  refine a_aload_0 rfl rfl ?_
  refine a_getr rfl rfl rfl (fun _ _ _ => rfl) rfl ?_
  refine a_aload_0 rfl rfl ?_
  refine a_iload_1 rfl rfl ?_
  refine a_iconst (v := (nI 0)) rfl rfl rfl ?_
  refine a_virtI rfl rfl (r_get b 0 hb (by omega)) (Nat.le_of_ble_eq_true rfl) ⟨rfl, rfl, rfl, rfl⟩ rfl rfl rfl (Nat.le_of_ble_eq_true rfl) rfl rfl ?_
  refine a_as (y := nI (c)) ec ?_
  refine a_iald rfl rfl (Or.inl rfl) rfl (by omega) (by decide) ?_
  refine a_as (y := nI (ltV (fl 0) A ho (szN ho) mo c)) (hLT c hc) ?_
  refine a_iconst (v := (nI 3)) rfl rfl rfl ?_
  refine a_idivN rfl rfl (by omega) (by omega) (by omega) ?_
  refine a_as (y := iI (((ltV (fl 0) A ho (szN ho) mo c / 3 : Nat) : Int))) (iI_nat _).symm ?_
  refine a_bipush (v := (nI 10)) rfl rfl rfl ?_
  refine a_virtI rfl rfl (C) (Nat.le_of_ble_eq_true rfl) ⟨rfl, rfl, rfl, rfl⟩ rfl rfl rfl (Nat.le_of_ble_eq_true rfl) rfl rfl ?_
  exact a_iret rfl rfl
end LY
