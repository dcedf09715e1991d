/-! BEST, of the reference; WHOSE -/
section RB
variable {L t : Nat} {lt rt rp : Option Nat} {sw : Bool} {h : Nat → Nat → Int32} {gl : Nat → Nat → Int64} {A B : Nat → Int32} {TX : Nat → Txt}
theorem l_good2 (ok : okA A) (e82 : h 82 = A) (f : Nat → Nat) (hf : ∀ k, k < 30 → h 88 k = nI (f k) ∧ f k ≤ 15) (m : Nat) : ∀ i, i + m = gN A 5 → dkS f A i = true → avA 0 298 54 [.ref 81, .int (nI i)] [] (sX L t lt rt rp sw h gl) (some (.int (bB (dkS f A (gN A 5)))), sX L t lt rt rp sw h gl) := by
  have l8 := gN_le (m := 6) ok.1 (i := 5) (by omega) (by decide)
  have e5 : h 82 5 = nI (gN A 5) := by rw [e82]; exact gN_eq ok.1 (by omega) (by decide)
  induction m with
  | zero =>
    intro i hi hq
    have e : i = gN A 5 := by omega
    subst e
    rw [hq]
    refine a_iload_1 rfl rfl ?_
    refine a_aload_0 rfl rfl ?_
    refine a_getr rfl rfl rfl (fun _ _ _ => rfl) rfl ?_
    refine a_iconst (v := (nI 5)) rfl rfl rfl ?_
    refine a_iald rfl rfl (Or.inl rfl) rfl (by omega) (by decide) ?_
    refine a_as (y := nI (gN A 5)) e5 ?_
    refine a_cmpN_ge rfl rfl rfl (by omega) (by omega) (fun _ => ?_) (fun c_61 => False.elim (by omega))
    refine a_iconst (v := (nI 1)) rfl rfl rfl ?_
    exact a_zret rfl rfl (Or.inr rfl)
  | succ m ih =>
    intro i hi hq
    obtain ⟨⟨v1, v2⟩, v3, v4⟩ := pr_v ok 110 i (by omega) (by omega)
    obtain ⟨g1, g2⟩ := hf _ v2
    have Z := ih (i + 1) (by omega)
    by_cases w : f (gN A (110 + 2 * i)) ≤ gN A (110 + 2 * i + 1)
    · refine a_iload_1 rfl rfl ?_
      refine a_aload_0 rfl rfl ?_
      refine a_getr rfl rfl rfl (fun _ _ _ => rfl) rfl ?_
      refine a_iconst (v := (nI 5)) rfl rfl rfl ?_
      refine a_iald rfl rfl (Or.inl rfl) rfl (by omega) (by decide) ?_
      refine a_as (y := nI (gN A 5)) e5 ?_
      refine a_cmpN_ge rfl rfl rfl (by omega) (by omega) (fun c_61 => False.elim (by omega)) (fun _ => ?_)
      refine a_aload_0 rfl rfl ?_
      refine a_getr rfl rfl rfl (fun _ _ _ => rfl) rfl ?_
      refine a_aload_0 rfl rfl ?_
      refine a_getr rfl rfl rfl (fun _ _ _ => rfl) rfl ?_
      refine a_bipush (v := (nI 110)) rfl rfl rfl ?_
      refine a_iconst (v := (nI 2)) rfl rfl rfl ?_
      refine a_iload_1 rfl rfl ?_
      refine a_imulN rfl rfl ?_
      refine a_iaddN rfl rfl ?_
      refine a_iald rfl rfl (Or.inl rfl) rfl (by omega) (by decide) ?_
      refine a_as (y := nI (gN A (110 + 2 * i))) (by rw [e82]; exact v1) ?_
      refine a_iald rfl rfl (Or.inl rfl) rfl (by omega) (by decide) ?_
      refine a_as (y := nI (f (gN A (110 + 2 * i)))) g1 ?_
      refine a_aload_0 rfl rfl ?_
      refine a_getr rfl rfl rfl (fun _ _ _ => rfl) rfl ?_
      refine a_bipush (v := (nI 110)) rfl rfl rfl ?_
      refine a_iconst (v := (nI 2)) rfl rfl rfl ?_
      refine a_iload_1 rfl rfl ?_
      refine a_imulN rfl rfl ?_
      refine a_iaddN rfl rfl ?_
      refine a_iconst (v := (nI 1)) rfl rfl rfl ?_
      refine a_iaddN rfl rfl ?_
      refine a_iald rfl rfl (Or.inl rfl) rfl (by omega) (by decide) ?_
      refine a_as (y := nI (gN A (110 + 2 * i + 1))) (by rw [e82]; exact v3) ?_
      refine a_cmpN_le rfl rfl rfl (by omega) (by omega) (fun _ => ?_) (fun c_93 => False.elim (by omega))
      refine a_iinc_1 rfl rfl (nI_inc _ _) rfl ?_
      refine a_goto rfl rfl ?_
      exact Z (by rw [dkS, hq]; simp [w])
    · have a1 : dkS f A (i + 1) = false := by rw [dkS, hq]; simp; omega
      rw [dkS_F a1 (by omega)]
      refine a_iload_1 rfl rfl ?_
      refine a_aload_0 rfl rfl ?_
      refine a_getr rfl rfl rfl (fun _ _ _ => rfl) rfl ?_
      refine a_iconst (v := (nI 5)) rfl rfl rfl ?_
      refine a_iald rfl rfl (Or.inl rfl) rfl (by omega) (by decide) ?_
      refine a_as (y := nI (gN A 5)) e5 ?_
      refine a_cmpN_ge rfl rfl rfl (by omega) (by omega) (fun c_61 => False.elim (by omega)) (fun _ => ?_)
      refine a_aload_0 rfl rfl ?_
      refine a_getr rfl rfl rfl (fun _ _ _ => rfl) rfl ?_
      refine a_aload_0 rfl rfl ?_
      refine a_getr rfl rfl rfl (fun _ _ _ => rfl) rfl ?_
      refine a_bipush (v := (nI 110)) rfl rfl rfl ?_
      refine a_iconst (v := (nI 2)) rfl rfl rfl ?_
      refine a_iload_1 rfl rfl ?_
      refine a_imulN rfl rfl ?_
      refine a_iaddN rfl rfl ?_
      refine a_iald rfl rfl (Or.inl rfl) rfl (by omega) (by decide) ?_
      refine a_as (y := nI (gN A (110 + 2 * i))) (by rw [e82]; exact v1) ?_
      refine a_iald rfl rfl (Or.inl rfl) rfl (by omega) (by decide) ?_
      refine a_as (y := nI (f (gN A (110 + 2 * i)))) g1 ?_
      refine a_aload_0 rfl rfl ?_
      refine a_getr rfl rfl rfl (fun _ _ _ => rfl) rfl ?_
      refine a_bipush (v := (nI 110)) rfl rfl rfl ?_
      refine a_iconst (v := (nI 2)) rfl rfl rfl ?_
      refine a_iload_1 rfl rfl ?_
      refine a_imulN rfl rfl ?_
      refine a_iaddN rfl rfl ?_
      refine a_iconst (v := (nI 1)) rfl rfl rfl ?_
      refine a_iaddN rfl rfl ?_
      refine a_iald rfl rfl (Or.inl rfl) rfl (by omega) (by decide) ?_
      refine a_as (y := nI (gN A (110 + 2 * i + 1))) (by rw [e82]; exact v3) ?_
      refine a_cmpN_le rfl rfl rfl (by omega) (by omega) (fun c_93 => False.elim (by omega)) (fun _ => ?_)
      refine a_iconst (v := (nI 0)) rfl rfl rfl ?_
      exact a_zret rfl rfl (Or.inl rfl)
theorem l_good1 (ok : okA A) (e82 : h 82 = A) (f : Nat → Nat) (hf : ∀ k, k < 30 → h 88 k = nI (f k) ∧ f k ≤ 15) (m : Nat) : ∀ i, i + m = gN A 4 → wkS f A i = true → avA 0 298 2 [.ref 81, .int (nI i)] [] (sX L t lt rt rp sw h gl) (some (.int (bB (gdS f A))), sX L t lt rt rp sw h gl) := by
  have l8 := gN_le (m := 6) ok.1 (i := 4) (by omega) (by decide)
  have e5 : h 82 4 = nI (gN A 4) := by rw [e82]; exact gN_eq ok.1 (by omega) (by decide)
  induction m with
  | zero =>
    intro i hi hq
    have e : i = gN A 4 := by omega
    subst e
    unfold gdS
    rw [hq, Bool.true_and]
    refine a_iload_1 rfl rfl ?_
    refine a_aload_0 rfl rfl ?_
    refine a_getr rfl rfl rfl (fun _ _ _ => rfl) rfl ?_
    refine a_iconst (v := (nI 4)) rfl rfl rfl ?_
    refine a_iald rfl rfl (Or.inl rfl) rfl (by omega) (by decide) ?_
    refine a_as (y := nI (gN A 4)) e5 ?_
    refine a_cmpN_ge rfl rfl rfl (by omega) (by omega) (fun _ => ?_) (fun c_9 => False.elim (by omega))
    refine a_iconst (v := (nI 0)) rfl rfl rfl ?_
    refine a_istore_1 rfl rfl rfl ?_
    exact l_good2 ok e82 f hf (gN A 5) 0 (by omega) rfl
  | succ m ih =>
    intro i hi hq
    obtain ⟨⟨v1, v2⟩, v3, v4⟩ := pr_v ok 98 i (by omega) (by omega)
    obtain ⟨g1, g2⟩ := hf _ v2
    have Z := ih (i + 1) (by omega)
    by_cases w : gN A (98 + 2 * i + 1) ≤ f (gN A (98 + 2 * i))
    · refine a_iload_1 rfl rfl ?_
      refine a_aload_0 rfl rfl ?_
      refine a_getr rfl rfl rfl (fun _ _ _ => rfl) rfl ?_
      refine a_iconst (v := (nI 4)) rfl rfl rfl ?_
      refine a_iald rfl rfl (Or.inl rfl) rfl (by omega) (by decide) ?_
      refine a_as (y := nI (gN A 4)) e5 ?_
      refine a_cmpN_ge rfl rfl rfl (by omega) (by omega) (fun c_9 => False.elim (by omega)) (fun _ => ?_)
      refine a_aload_0 rfl rfl ?_
      refine a_getr rfl rfl rfl (fun _ _ _ => rfl) rfl ?_
      refine a_aload_0 rfl rfl ?_
      refine a_getr rfl rfl rfl (fun _ _ _ => rfl) rfl ?_
      refine a_bipush (v := (nI 98)) rfl rfl rfl ?_
      refine a_iconst (v := (nI 2)) rfl rfl rfl ?_
      refine a_iload_1 rfl rfl ?_
      refine a_imulN rfl rfl ?_
      refine a_iaddN rfl rfl ?_
      refine a_iald rfl rfl (Or.inl rfl) rfl (by omega) (by decide) ?_
      refine a_as (y := nI (gN A (98 + 2 * i))) (by rw [e82]; exact v1) ?_
      refine a_iald rfl rfl (Or.inl rfl) rfl (by omega) (by decide) ?_
      refine a_as (y := nI (f (gN A (98 + 2 * i)))) g1 ?_
      refine a_aload_0 rfl rfl ?_
      refine a_getr rfl rfl rfl (fun _ _ _ => rfl) rfl ?_
      refine a_bipush (v := (nI 98)) rfl rfl rfl ?_
      refine a_iconst (v := (nI 2)) rfl rfl rfl ?_
      refine a_iload_1 rfl rfl ?_
      refine a_imulN rfl rfl ?_
      refine a_iaddN rfl rfl ?_
      refine a_iconst (v := (nI 1)) rfl rfl rfl ?_
      refine a_iaddN rfl rfl ?_
      refine a_iald rfl rfl (Or.inl rfl) rfl (by omega) (by decide) ?_
      refine a_as (y := nI (gN A (98 + 2 * i + 1))) (by rw [e82]; exact v3) ?_
      refine a_cmpN_ge rfl rfl rfl (by omega) (by omega) (fun _ => ?_) (fun c_41 => False.elim (by omega))
      refine a_iinc_1 rfl rfl (nI_inc _ _) rfl ?_
      refine a_goto rfl rfl ?_
      exact Z (by rw [wkS, hq]; simp [w])
    · have a1 : wkS f A (i + 1) = false := by rw [wkS, hq]; simp; omega
      unfold gdS
      rw [wkS_F a1 (by omega), Bool.false_and]
      refine a_iload_1 rfl rfl ?_
      refine a_aload_0 rfl rfl ?_
      refine a_getr rfl rfl rfl (fun _ _ _ => rfl) rfl ?_
      refine a_iconst (v := (nI 4)) rfl rfl rfl ?_
      refine a_iald rfl rfl (Or.inl rfl) rfl (by omega) (by decide) ?_
      refine a_as (y := nI (gN A 4)) e5 ?_
      refine a_cmpN_ge rfl rfl rfl (by omega) (by omega) (fun c_9 => False.elim (by omega)) (fun _ => ?_)
      refine a_aload_0 rfl rfl ?_
      refine a_getr rfl rfl rfl (fun _ _ _ => rfl) rfl ?_
      refine a_aload_0 rfl rfl ?_
      refine a_getr rfl rfl rfl (fun _ _ _ => rfl) rfl ?_
      refine a_bipush (v := (nI 98)) rfl rfl rfl ?_
      refine a_iconst (v := (nI 2)) rfl rfl rfl ?_
      refine a_iload_1 rfl rfl ?_
      refine a_imulN rfl rfl ?_
      refine a_iaddN rfl rfl ?_
      refine a_iald rfl rfl (Or.inl rfl) rfl (by omega) (by decide) ?_
      refine a_as (y := nI (gN A (98 + 2 * i))) (by rw [e82]; exact v1) ?_
      refine a_iald rfl rfl (Or.inl rfl) rfl (by omega) (by decide) ?_
      refine a_as (y := nI (f (gN A (98 + 2 * i)))) g1 ?_
      refine a_aload_0 rfl rfl ?_
      refine a_getr rfl rfl rfl (fun _ _ _ => rfl) rfl ?_
      refine a_bipush (v := (nI 98)) rfl rfl rfl ?_
      refine a_iconst (v := (nI 2)) rfl rfl rfl ?_
      refine a_iload_1 rfl rfl ?_
      refine a_imulN rfl rfl ?_
      refine a_iaddN rfl rfl ?_
      refine a_iconst (v := (nI 1)) rfl rfl rfl ?_
      refine a_iaddN rfl rfl ?_
      refine a_iald rfl rfl (Or.inl rfl) rfl (by omega) (by decide) ?_
      refine a_as (y := nI (gN A (98 + 2 * i + 1))) (by rw [e82]; exact v3) ?_
      refine a_cmpN_ge rfl rfl rfl (by omega) (by omega) (fun c_41 => False.elim (by omega)) (fun _ => ?_)
      refine a_iconst (v := (nI 0)) rfl rfl rfl ?_
      exact a_zret rfl rfl (Or.inl rfl)
theorem r_isGood (ok : okA A) (e82 : h 82 = A) (f : Nat → Nat) (hf : ∀ k, k < 30 → h 88 k = nI (f k) ∧ f k ≤ 15) : avE 0 298 [.ref 81] (sX L t lt rt rp sw h gl) (some (.int (bB (gdS f A))), sX L t lt rt rp sw h gl) := by
  show avA _ 298 0 [.ref 81, mvU] [] _ _
  refine a_iconst (v := (nI 0)) rfl rfl rfl ?_
  refine a_istore_1 rfl rfl rfl ?_
  exact l_good1 ok e82 f hf (gN A 4) 0 (by omega) rfl
theorem l_allL (f : Nat → Nat) (hf : ∀ k, k < 30 → h 88 k = nI (f k)) (m : Nat) : ∀ c, c + m = 30 → avA 0 299 4 [.ref 81, .int (nI (smS f c)), .int (nI c)] [] (sX L t lt rt rp sw h gl) (some (.int (nI (smS f 30))), sX L t lt rt rp sw h gl) := by
  induction m with
  | zero =>
    intro c hc
    have e : c = 30 := by omega
    subst e
    refine a_iload_2 rfl rfl ?_
    refine a_bipush (v := (nI 30)) rfl rfl rfl ?_
    refine a_cmpN_ge rfl rfl rfl (by omega) (by omega) (fun _ => ?_) (fun c_7 => absurd c_7 (by decide))
    refine a_iload_1 rfl rfl ?_
    exact a_iret rfl rfl
  | succ m ih =>
    intro c hc
    refine a_iload_2 rfl rfl ?_
    refine a_bipush (v := (nI 30)) rfl rfl rfl ?_
    refine a_cmpN_ge rfl rfl rfl (by omega) (by omega) (fun c_7 => False.elim (by omega)) (fun _ => ?_)
    refine a_iload_1 rfl rfl ?_
    refine a_aload_0 rfl rfl ?_
    refine a_getr rfl rfl rfl (fun _ _ _ => rfl) rfl ?_
    refine a_iload_2 rfl rfl ?_
    refine a_iald rfl rfl (Or.inl rfl) rfl (by omega) (by decide) ?_
    refine a_as (y := nI (f c)) (hf c (by omega)) ?_
    refine a_iaddN rfl rfl ?_
    refine a_istore_1 rfl rfl rfl ?_
    refine a_iinc_2 rfl rfl (nI_inc _ _) rfl ?_
    refine a_goto rfl rfl ?_
    exact ih (c + 1) (by omega)
theorem r_allLight (f : Nat → Nat) (hf : ∀ k, k < 30 → h 88 k = nI (f k)) : avE 0 299 [.ref 81] (sX L t lt rt rp sw h gl) (some (.int (nI (smS f 30))), sX L t lt rt rp sw h gl) := by
  show avA _ 299 0 [.ref 81, mvU, mvU] [] _ _
  refine a_iconst (v := (nI 0)) rfl rfl rfl ?_
  refine a_istore_1 rfl rfl rfl ?_
  refine a_iconst (v := (nI 0)) rfl rfl rfl ?_
  refine a_istore_2 rfl rfl rfl ?_
  exact l_allL f hf 30 0 rfl
end RB
section RB2
variable {L t : Nat} {lt rt rp : Option Nat} {sw : Bool} {A B : Nat → Int32} {TX : Nat → Txt}
theorem l_rbest (ok : okA A) (v1 : Int32) (m : Nat) : ∀ (c : Nat) (h : Nat → Nat → Int32) (gl : Nat → Nat → Int64), c + m = 30 → RI A B TX h → ∃ h' gl', CF [87, 88, 90, 91] h h' ∧ RI A B TX h' ∧ ∀ r : Option Value × mvSt, avA 6 297 71 [.ref 81, .int v1, .int (bsS A (lcA TX A (szN (gN A 8))) 30).1, .int (iI (bsS A (lcA TX A (szN (gN A 8))) 30).2), .int (nI 30)] [] (sX L t lt rt rp sw h' gl') r → avA 6 297 7 [.ref 81, .int v1, .int (bsS A (lcA TX A (szN (gN A 8))) c).1, .int (iI (bsS A (lcA TX A (szN (gN A 8))) c).2), .int (nI c)] [] (sX L t lt rt rp sw h gl) r := by
  have l8 := gN_le (m := 9999) ok.1 (i := 8) (by omega) (by decide)
  have zz := szN_le (gN A 8)
  induction m with
  | zero =>
    intro c h gl hc H
    have e : c = 30 := by omega
    subst e
    refine ⟨h, gl, CF_refl, H, fun r Z => ?_⟩
    refine a_iload_4 rfl rfl ?_
    refine a_bipush (v := (nI 30)) rfl rfl rfl ?_
    refine a_cmpN_ge rfl rfl rfl (by omega) (by omega) (fun _ => ?_) (fun c_11 => absurd c_11 (by decide))
    exact Z
  | succ m ih =>
    intro c h gl hc H
    have e8 : h 82 8 = nI (gN A 8) := by rw [H.1]; exact gN_eq ok.1 (by omega) (by decide)
    have Cf := r_isFreeN (L := L) (t := t) (lt := lt) (rt := rt) (rp := rp) (sw := sw) (h := h) (gl := gl) c (by omega)
    rw [H.1] at Cf
    have bb := bsS_B A (lcA TX A (szN (gN A 8))) (fun c k => lcA_le _ _ _ _ _) c
    cases q : frA A c with
    | false =>
      obtain ⟨h', gl', c1, H', K⟩ := ih (c + 1) h gl (by omega) H
      refine ⟨h', gl', c1, H', fun r Z => ?_⟩
      have A1 := K r Z
      rw [bsS, if_neg (fun z => absurd (q.symm.trans z.1) (by decide))] at A1
      refine a_iload_4 rfl rfl ?_
      refine a_bipush (v := (nI 30)) rfl rfl rfl ?_
      refine a_cmpN_ge rfl rfl rfl (by omega) (by omega) (fun c_11 => False.elim (by omega)) (fun _ => ?_)
      refine a_aload_0 rfl rfl ?_
      refine a_iload_4 rfl rfl ?_
      refine a_virtI rfl rfl (Cf) (Nat.le_of_ble_eq_true rfl) ⟨rfl, rfl, rfl, rfl⟩ rfl rfl rfl (Nat.le_of_ble_eq_true rfl) rfl rfl ?_
      refine a_ifb_ne rfl rfl rfl (fun c_20 => by first | exact absurd c_20 (by rw [q]; decide) | exact absurd (by rw [q]; decide) c_20) (fun _ => ?_)
      refine a_goto rfl rfl ?_
      refine a_iinc_4 rfl rfl (nI_inc _ _) rfl ?_
      refine a_goto rfl rfl ?_
      exact A1
    | true =>
      obtain ⟨h1, gl1, C1, c1, k1, _⟩ := r_layLights (L := L) (t := t) (lt := lt) (rt := rt) (rp := rp) (sw := sw) (gl := gl) (gN A 8) (szN (gN A 8)) (nI c) (flA TX A 0) l8 zz e8 (by rw [H.1]; exact rOK_clOK ok.1) (RI_txR H ok 0 (by omega))
      rw [H.1] at k1
      have H1 : RI A B TX h1 := RI_cf H rfl c1
      have hf : ∀ k, k < 30 → h1 88 k = nI (lcA TX A (szN (gN A 8)) c k) ∧ lcA TX A (szN (gN A 8)) c k ≤ 15 := fun k hk => ⟨k1 k hk, lcA_le _ _ _ _ _⟩
      have C2 := r_isGood (L := L) (t := t) (lt := lt) (rt := rt) (rp := rp) (sw := sw) (gl := gl1) ok H1.1 (lcA TX A (szN (gN A 8)) c) hf
      have C3 := r_allLight (L := L) (t := t) (lt := lt) (rt := rt) (rp := rp) (sw := sw) (gl := gl1) (lcA TX A (szN (gN A 8)) c) k1
      have sl := smS_le (lcA TX A (szN (gN A 8)) c) (fun k => lcA_le _ _ _ _ _) 30
      obtain ⟨h', gl', c2, H', K⟩ := ih (c + 1) h1 gl1 (by omega) H1
      refine ⟨h', gl', CF_trans c1 c2, H', fun r Z => ?_⟩
      have A1 := K r Z
      rw [bsS] at A1
      cases g : gdS (lcA TX A (szN (gN A 8)) c) A with
      | false =>
        rw [g] at C2
        rw [if_neg (fun z => absurd (g.symm.trans z.2.1) (by decide))] at A1
        refine a_iload_4 rfl rfl ?_
        refine a_bipush (v := (nI 30)) rfl rfl rfl ?_
        refine a_cmpN_ge rfl rfl rfl (by omega) (by omega) (fun c_11 => False.elim (by omega)) (fun _ => ?_)
        refine a_aload_0 rfl rfl ?_
        refine a_iload_4 rfl rfl ?_
        refine a_virtI rfl rfl (Cf) (Nat.le_of_ble_eq_true rfl) ⟨rfl, rfl, rfl, rfl⟩ rfl rfl rfl (Nat.le_of_ble_eq_true rfl) rfl rfl ?_
        refine a_ifb_ne rfl rfl rfl (fun _ => ?_) (fun c_20 => by first | exact absurd q c_20 | exact absurd c_20 q)
        refine a_aload_0 rfl rfl ?_
        refine a_iload_4 rfl rfl ?_
        refine a_aload_0 rfl rfl ?_
        refine a_virtI rfl rfl (r_phase (gN A 8) l8 e8) (Nat.le_of_ble_eq_true rfl) ⟨rfl, rfl, rfl, rfl⟩ rfl rfl rfl (Nat.le_of_ble_eq_true rfl) rfl rfl ?_
        refine a_statI rfl rfl (r_sizeOf (gN A 8 / 24 % 30) (by omega)) (Nat.le_of_ble_eq_true rfl) ⟨rfl, rfl, rfl⟩ rfl rfl rfl (Nat.le_of_ble_eq_true rfl) rfl ?_
        refine a_as (y := nI (szN (gN A 8))) rfl ?_
        refine a_virt0 rfl rfl (C1) (Nat.le_of_ble_eq_true rfl) ⟨rfl, rfl, rfl, rfl⟩ rfl rfl rfl (Nat.le_of_ble_eq_true rfl) rfl rfl ?_
        refine a_aload_0 rfl rfl ?_
        refine a_virtI rfl rfl (C2) (Nat.le_of_ble_eq_true rfl) ⟨rfl, rfl, rfl, rfl⟩ rfl rfl rfl (Nat.le_of_ble_eq_true rfl) rfl rfl ?_
        refine a_ifN_eq rfl rfl rfl (by decide) (fun _ => ?_) (fun c_43 => False.elim (absurd c_43 (by decide)))
        refine a_iinc_4 rfl rfl (nI_inc _ _) rfl ?_
        refine a_goto rfl rfl ?_
        exact A1
      | true =>
        rw [g] at C2
        refine a_iload_4 rfl rfl ?_
        refine a_bipush (v := (nI 30)) rfl rfl rfl ?_
        refine a_cmpN_ge rfl rfl rfl (by omega) (by omega) (fun c_11 => False.elim (by omega)) (fun _ => ?_)
        refine a_aload_0 rfl rfl ?_
        refine a_iload_4 rfl rfl ?_
        refine a_virtI rfl rfl (Cf) (Nat.le_of_ble_eq_true rfl) ⟨rfl, rfl, rfl, rfl⟩ rfl rfl rfl (Nat.le_of_ble_eq_true rfl) rfl rfl ?_
        refine a_ifb_ne rfl rfl rfl (fun _ => ?_) (fun c_20 => by first | exact absurd q c_20 | exact absurd c_20 q)
        refine a_aload_0 rfl rfl ?_
        refine a_iload_4 rfl rfl ?_
        refine a_aload_0 rfl rfl ?_
        refine a_virtI rfl rfl (r_phase (gN A 8) l8 e8) (Nat.le_of_ble_eq_true rfl) ⟨rfl, rfl, rfl, rfl⟩ rfl rfl rfl (Nat.le_of_ble_eq_true rfl) rfl rfl ?_
        refine a_statI rfl rfl (r_sizeOf (gN A 8 / 24 % 30) (by omega)) (Nat.le_of_ble_eq_true rfl) ⟨rfl, rfl, rfl⟩ rfl rfl rfl (Nat.le_of_ble_eq_true rfl) rfl ?_
        refine a_as (y := nI (szN (gN A 8))) rfl ?_
        refine a_virt0 rfl rfl (C1) (Nat.le_of_ble_eq_true rfl) ⟨rfl, rfl, rfl, rfl⟩ rfl rfl rfl (Nat.le_of_ble_eq_true rfl) rfl rfl ?_
        refine a_aload_0 rfl rfl ?_
        refine a_virtI rfl rfl (C2) (Nat.le_of_ble_eq_true rfl) ⟨rfl, rfl, rfl, rfl⟩ rfl rfl rfl (Nat.le_of_ble_eq_true rfl) rfl rfl ?_
        refine a_ifN_eq rfl rfl rfl (by decide) (fun c_43 => False.elim (absurd c_43 (by decide))) (fun _ => ?_)
        refine a_aload_0 rfl rfl ?_
        refine a_virtI rfl rfl (C3) (Nat.le_of_ble_eq_true rfl) ⟨rfl, rfl, rfl, rfl⟩ rfl rfl rfl (Nat.le_of_ble_eq_true rfl) rfl rfl ?_
        refine a_as (y := iI (((smS (lcA TX A (szN (gN A 8)) c) 30 : Nat) : Int))) (iI_nat _).symm ?_
        refine a_iload_3 rfl rfl ?_
        refine a_cmpI_gt rfl rfl rfl (iI_toInt (by omega) (by omega)) (iI_toInt (by omega) (by omega)) (fun c_51 => ?_) (fun c_51 => ?_)
        · refine a_aload_0 rfl rfl ?_
          refine a_virtI rfl rfl (C3) (Nat.le_of_ble_eq_true rfl) ⟨rfl, rfl, rfl, rfl⟩ rfl rfl rfl (Nat.le_of_ble_eq_true rfl) rfl rfl ?_
          refine a_as (y := iI (((smS (lcA TX A (szN (gN A 8)) c) 30 : Nat) : Int))) (iI_nat _).symm ?_
          refine a_istore_3 rfl rfl rfl ?_
          refine a_iload_4 rfl rfl ?_
          refine a_istore_2 rfl rfl rfl ?_
          refine a_iinc_4 rfl rfl (nI_inc _ _) rfl ?_
          refine a_goto rfl rfl ?_
          first | (rw [if_pos ⟨q, g, by omega⟩] at A1; exact A1) | (rw [if_neg (fun z => absurd z.2.2 (by omega))] at A1; exact A1)
        · refine a_goto rfl rfl ?_
          refine a_iinc_4 rfl rfl (nI_inc _ _) rfl ?_
          refine a_goto rfl rfl ?_
          first | (rw [if_pos ⟨q, g, by omega⟩] at A1; exact A1) | (rw [if_neg (fun z => absurd z.2.2 (by omega))] at A1; exact A1)
theorem p_best (hA : okA A) (v : Int32) (hv : v = nI 0 ∨ v = nI 1) : ∃ r, opP 30 4 140 [.ref 7, .int v] 6 297 [.ref 81, .int v] TX A B r A B := by
  have l8 := gN_le (m := 9999) hA.1 (i := 8) (by omega) (by decide)
  refine ⟨if v = nI 0 then (bsS A (lcA TX A (szN (gN A 8))) 30).1 else iI (bsS A (lcA TX A (szN (gN A 8))) 30).2, ?_, ?_, hA, rfl⟩
  · intro L t lt rt rp sw h gl R H hR
    obtain ⟨e14, _⟩ := CI_14 H
    obtain ⟨h', lt', R', c, H', r1, r2, K⟩ := l_cbest (L := L) (t := t) (rt := rt) (rp := rp) (sw := sw) (gl := gl) (.int v) 30 0 R mvU lt h rfl H (by omega)
    refine ⟨h', lt', R', sw, ?_, c, H', r1, r2⟩
    have K0 : ∀ r : Option Value × mvSt, (∀ y6, avA 4 140 99 [.ref 7, .int v, .int (nI (gN A 8)), .int (bsS A (lcA TX A (szN (gN A 8))) 30).1, .int (iI (bsS A (lcA TX A (szN (gN A 8))) 30).2), .int (nI 30), y6] [] (sX L t lt' rt rp sw h' gl) r) → avA 4 140 19 [.ref 7, .int v, .int (nI (gN A 8)), .int (-1), .int (-1), .int (nI 0), mvU] [] (sX L t lt rt rp sw h gl) r := fun r Z => by
      have := K r Z
      rw [show iI (bsS A (lcA TX A (szN (gN A 8))) 0).2 = -1 from m1_Z.symm] at this
      exact this
    rcases hv with rfl | rfl
    · have A1 := K0 (some (.int (bsS A (lcA TX A (szN (gN A 8))) 30).1), sX L t lt' rt rp sw h' gl) (fun y6 => by
        refine ?_
        refine a_iload_1 rfl rfl ?_
        refine a_ifN_eq rfl rfl rfl (by omega) (fun _ => ?_) (fun c_100 => absurd c_100 (by decide))
        refine a_iload_3 rfl rfl ?_
        exact a_iret rfl rfl
        )
      rw [if_pos rfl]
      show avA _ 140 0 [.ref 7, .int (nI 0), mvU, mvU, mvU, mvU, mvU] [] _ _
      refine a_aload_0 rfl rfl ?_
      refine a_getr rfl rfl rfl (fun _ _ _ => rfl) rfl ?_
      refine a_getr rfl rfl rfl (fun _ _ _ => rfl) rfl ?_
      refine a_geti rfl rfl rfl (fun _ _ _ => rfl) ?_
      refine a_as (y := nI (gN A 8)) e14 ?_
      refine a_istore_2 rfl rfl rfl ?_
      refine a_iconst (v := (-1)) rfl rfl rfl ?_
      refine a_istore_3 rfl rfl rfl ?_
      refine a_iconst (v := (-1)) rfl rfl rfl ?_
      refine a_istore_4 rfl rfl rfl ?_
      refine a_iconst (v := (nI 0)) rfl rfl rfl ?_
      refine a_istore_5 rfl rfl rfl ?_
      exact A1
    · have A1 := K0 (some (.int (iI (bsS A (lcA TX A (szN (gN A 8))) 30).2)), sX L t lt' rt rp sw h' gl) (fun y6 => by
        refine ?_
        refine a_iload_1 rfl rfl ?_
        refine a_ifN_eq rfl rfl rfl (by omega) (fun c_100 => absurd c_100 (by decide)) (fun _ => ?_)
        refine a_iload_4 rfl rfl ?_
        refine a_goto rfl rfl ?_
        exact a_iret rfl rfl
        )
      rw [if_neg (by decide)]
      show avA _ 140 0 [.ref 7, .int (nI 1), mvU, mvU, mvU, mvU, mvU] [] _ _
      refine a_aload_0 rfl rfl ?_
      refine a_getr rfl rfl rfl (fun _ _ _ => rfl) rfl ?_
      refine a_getr rfl rfl rfl (fun _ _ _ => rfl) rfl ?_
      refine a_geti rfl rfl rfl (fun _ _ _ => rfl) ?_
      refine a_as (y := nI (gN A 8)) e14 ?_
      refine a_istore_2 rfl rfl rfl ?_
      refine a_iconst (v := (-1)) rfl rfl rfl ?_
      refine a_istore_3 rfl rfl rfl ?_
      refine a_iconst (v := (-1)) rfl rfl rfl ?_
      refine a_istore_4 rfl rfl rfl ?_
      refine a_iconst (v := (nI 0)) rfl rfl rfl ?_
      refine a_istore_5 rfl rfl rfl ?_
      exact A1
  · intro L t lt rt rp sw h gl ok H
    obtain ⟨h', gl', c, H', K⟩ := l_rbest (L := L) (t := t) (lt := lt) (rt := rt) (rp := rp) (sw := sw) ok v 30 0 h gl rfl H
    refine ⟨h', gl', ?_, CF_rf rfl c, fun j hj => by rw [c 81 rfl], H'⟩
    have K0 : ∀ r : Option Value × mvSt, avA 6 297 71 [.ref 81, .int v, .int (bsS A (lcA TX A (szN (gN A 8))) 30).1, .int (iI (bsS A (lcA TX A (szN (gN A 8))) 30).2), .int (nI 30)] [] (sX L t lt rt rp sw h' gl') r → avA 6 297 7 [.ref 81, .int v, .int (-1), .int (-1), .int (nI 0)] [] (sX L t lt rt rp sw h gl) r := fun r Z => by
      have := K r Z
      rw [show iI (bsS A (lcA TX A (szN (gN A 8))) 0).2 = -1 from m1_Z.symm] at this
      exact this
    rcases hv with rfl | rfl
    · have A1 := K0 (some (.int (bsS A (lcA TX A (szN (gN A 8))) 30).1), sX L t lt rt rp sw h' gl') (by
        refine ?_
        refine a_iload_1 rfl rfl ?_
        refine a_ifN_eq rfl rfl rfl (by omega) (fun _ => ?_) (fun c_72 => absurd c_72 (by decide))
        refine a_iload_2 rfl rfl ?_
        exact a_iret rfl rfl
        )
      rw [if_pos rfl]
      show avA _ 297 0 [.ref 81, .int (nI 0), mvU, mvU, mvU] [] _ _
      refine a_iconst (v := (-1)) rfl rfl rfl ?_
      refine a_istore_2 rfl rfl rfl ?_
      refine a_iconst (v := (-1)) rfl rfl rfl ?_
      refine a_istore_3 rfl rfl rfl ?_
      refine a_iconst (v := (nI 0)) rfl rfl rfl ?_
      refine a_istore_4 rfl rfl rfl ?_
      exact A1
    · have A1 := K0 (some (.int (iI (bsS A (lcA TX A (szN (gN A 8))) 30).2)), sX L t lt rt rp sw h' gl') (by
        refine ?_
        refine a_iload_1 rfl rfl ?_
        refine a_ifN_eq rfl rfl rfl (by omega) (fun c_72 => absurd c_72 (by decide)) (fun _ => ?_)
        refine a_iload_3 rfl rfl ?_
        refine a_goto rfl rfl ?_
        exact a_iret rfl rfl
        )
      rw [if_neg (by decide)]
      show avA _ 297 0 [.ref 81, .int (nI 1), mvU, mvU, mvU] [] _ _
      refine a_iconst (v := (-1)) rfl rfl rfl ?_
      refine a_istore_2 rfl rfl rfl ?_
      refine a_iconst (v := (-1)) rfl rfl rfl ?_
      refine a_istore_3 rfl rfl rfl ?_
      refine a_iconst (v := (nI 0)) rfl rfl rfl ?_
      refine a_istore_4 rfl rfl rfl ?_
      exact A1
/-! whose -/
def whB (TX : Nat → Txt) (A : Nat → Int32) : Nat → Bool := fun i => prS (ltV ((TX i).1 0) A (gN A 8) (szN (gN A 8)) (A 9)) A 150 (gN A 7)
theorem l_cwhose {gl : Nat → Nat → Int64} (m : Nat) : ∀ (i R : Nat) (lt : Option Nat) (h : Nat → Nat → Int32), i + m = gN A 1 → CI A B TX R t lt h → R + m < 67108864 → ∃ h' lt' R', avA 4 169 12 [.ref 7, .ref 14, .int (bsI i (whB TX A)), .int (nI i)] [] (sX L t lt rt rp sw h gl) (some (.int (bsI (gN A 1) (whB TX A))), sX L t lt' rt rp sw h' gl) ∧ CF clS h h' ∧ CI A B TX R' t lt' h' ∧ R ≤ R' ∧ R' ≤ R + m := by
  induction m with
  | zero =>
    intro i R lt h hi H hR
    have n4 := H.2.2.1
    have e1 : h 11 12 = nI (gN A 1) := H.2.2.2.1.2.2.2.2.2.2.2.trans (gN_eq H.1.1 (by omega) (by decide))
    have e : i = gN A 1 := by omega
    subst e
    refine ⟨h, lt, R, ?_, CF_refl, H, by omega, by omega⟩
    refine a_iload_3 rfl rfl ?_
    refine a_aload_0 rfl rfl ?_
    refine a_getr rfl rfl rfl (fun _ _ _ => rfl) rfl ?_
    refine a_geti rfl rfl rfl (fun _ _ _ => rfl) ?_
    refine a_as (y := nI (gN A 1)) e1 ?_
    refine a_cmpN_ge rfl rfl rfl (by omega) (by omega) (fun _ => ?_) (fun c_20 => False.elim (by omega))
    refine a_iload_2 rfl rfl ?_
    exact a_iret rfl rfl
  | succ m ih =>
    intro i R lt h hi H hR
    have n4 := H.2.2.1
    obtain ⟨e8, l8⟩ := CI_14 H
    have e1 : h 11 12 = nI (gN A 1) := H.2.2.2.1.2.2.2.2.2.2.2.trans (gN_eq H.1.1 (by omega) (by decide))
    have e0 : h 14 0 = A 9 := H.2.2.2.1.2.1.1
    have zz := szN_le (gN A 8)
    have er : lyR lt rt rp sw t 67 i = some (98 + 7 * i) := by
      show (bif Nat.blt i t then some (98 + 7 * i) else none) = some (98 + 7 * i)
      rw [bltT (by omega)]
      rfl
    have bo : bOK A TX (some (98 + 7 * i)) (TX i).1 := Or.inr ⟨i, by omega, rfl, rfl⟩
    obtain ⟨h1, R1, C1, c1, W1, H1, r1, r2⟩ := C_look (L := L) (rt := rt) (rp := rp) (sw := sw) (gl := gl) H bo (A 9) (gN A 8) (szN (gN A 8)) (by omega) l8 zz (A9_p H.1)
    obtain ⟨h2, C2, c2, W2⟩ := e_allAre_29 (L := L) (rt := rt) (rp := rp) (sw := sw) (gl := gl) H1 W1
    have H2 : CI A B TX R1 t (some (98 + 7 * i)) h2 := CI_law H1 rfl rfl rfl c2 (LW_LIb bo W2)
    obtain ⟨h3, lt3, R3, Z, c3, H3, r3, r4⟩ := ih (i + 1) R1 _ h2 (by omega) H2 (by omega)
    refine ⟨h3, lt3, R3, ?_, CF_trans (CF_cl rfl c1) (CF_trans (CF_cl rfl c2) c3), H3, by omega, by omega⟩
    have C2' : avE 3 148 [.ref 8, .ref 29] (sX L t (some (98 + 7 * i)) rt rp sw h1 gl) (some (.int (bB (whB TX A i))), sX L t (some (98 + 7 * i)) rt rp sw h2 gl) := C2
    cases q : whB TX A i with
    | true =>
      rw [q] at C2'
      rw [← bs_succT (p := whB TX A) (by omega) q] at Z
      refine a_iload_3 rfl rfl ?_
      refine a_aload_0 rfl rfl ?_
      refine a_getr rfl rfl rfl (fun _ _ _ => rfl) rfl ?_
      refine a_geti rfl rfl rfl (fun _ _ _ => rfl) ?_
      refine a_as (y := nI (gN A 1)) e1 ?_
      refine a_cmpN_ge rfl rfl rfl (by omega) (by omega) (fun c_20 => False.elim (by omega)) (fun _ => ?_)
      refine a_iload_3 rfl rfl ?_
      refine a_iconst (v := (nI 4)) rfl rfl rfl ?_
      refine a_cmpN_ge rfl rfl rfl (by omega) (by omega) (fun c_25 => False.elim (by omega)) (fun _ => ?_)
      refine a_aload_0 rfl rfl ?_
      refine a_getr rfl rfl rfl (fun _ _ _ => rfl) rfl ?_
      refine a_aload_0 rfl rfl ?_
      refine a_getr rfl rfl rfl (fun _ _ _ => rfl) rfl ?_
      refine a_iload_3 rfl rfl ?_
      refine a_aald rfl rfl rfl rfl (by omega) (by decide) ?_
      refine a_is er ?_
      refine a_aload_1 rfl rfl ?_
      refine a_geti rfl rfl rfl (fun _ _ _ => rfl) ?_
      refine a_as (y := A 9) e0 ?_
      refine a_aload_1 rfl rfl ?_
      refine a_geti rfl rfl rfl (fun _ _ _ => rfl) ?_
      refine a_as (y := nI (gN A 8)) e8 ?_
      refine a_aload_1 rfl rfl ?_
      refine a_geti rfl rfl rfl (fun _ _ _ => rfl) ?_
      refine a_as (y := nI (gN A 8)) e8 ?_
      refine a_statI rfl rfl (e_sizeAt (gN A 8) (by omega)) (Nat.le_of_ble_eq_true rfl) ⟨rfl, rfl, rfl⟩ rfl rfl rfl (Nat.le_of_ble_eq_true rfl) rfl ?_
      refine a_virt0 rfl rfl (C1) (Nat.le_of_ble_eq_true rfl) ⟨rfl, rfl, rfl, rfl⟩ rfl rfl rfl (Nat.le_of_ble_eq_true rfl) rfl rfl ?_
      refine a_aload_0 rfl rfl ?_
      refine a_getr rfl rfl rfl (fun _ _ _ => rfl) rfl ?_
      refine a_aload_0 rfl rfl ?_
      refine a_getr rfl rfl rfl (fun _ _ _ => rfl) rfl ?_
      refine a_getr rfl rfl rfl (fun _ _ _ => rfl) rfl ?_
      refine a_virtI rfl rfl (C2') (Nat.le_of_ble_eq_true rfl) ⟨rfl, rfl, rfl, rfl⟩ rfl rfl rfl (Nat.le_of_ble_eq_true rfl) rfl rfl ?_
      refine a_ifN_eq rfl rfl rfl (by decide) (fun c_70 => False.elim (absurd c_70 (by decide))) (fun _ => ?_)
      refine a_iload_2 rfl rfl ?_
      refine a_iconst (v := (nI 1)) rfl rfl rfl ?_
      refine a_iload_3 rfl rfl ?_
      refine a_ishl rfl rfl ?_
      refine a_ior rfl rfl ?_
      refine a_istore_2 rfl rfl rfl ?_
      refine a_iinc_3 rfl rfl (nI_inc _ _) rfl ?_
      refine a_goto rfl rfl ?_
      exact Z
    | false =>
      rw [q] at C2'
      rw [bs_succF (p := whB TX A) q] at Z
      refine a_iload_3 rfl rfl ?_
      refine a_aload_0 rfl rfl ?_
      refine a_getr rfl rfl rfl (fun _ _ _ => rfl) rfl ?_
      refine a_geti rfl rfl rfl (fun _ _ _ => rfl) ?_
      refine a_as (y := nI (gN A 1)) e1 ?_
      refine a_cmpN_ge rfl rfl rfl (by omega) (by omega) (fun c_20 => False.elim (by omega)) (fun _ => ?_)
      refine a_iload_3 rfl rfl ?_
      refine a_iconst (v := (nI 4)) rfl rfl rfl ?_
      refine a_cmpN_ge rfl rfl rfl (by omega) (by omega) (fun c_25 => False.elim (by omega)) (fun _ => ?_)
      refine a_aload_0 rfl rfl ?_
      refine a_getr rfl rfl rfl (fun _ _ _ => rfl) rfl ?_
      refine a_aload_0 rfl rfl ?_
      refine a_getr rfl rfl rfl (fun _ _ _ => rfl) rfl ?_
      refine a_iload_3 rfl rfl ?_
      refine a_aald rfl rfl rfl rfl (by omega) (by decide) ?_
      refine a_is er ?_
      refine a_aload_1 rfl rfl ?_
      refine a_geti rfl rfl rfl (fun _ _ _ => rfl) ?_
      refine a_as (y := A 9) e0 ?_
      refine a_aload_1 rfl rfl ?_
      refine a_geti rfl rfl rfl (fun _ _ _ => rfl) ?_
      refine a_as (y := nI (gN A 8)) e8 ?_
      refine a_aload_1 rfl rfl ?_
      refine a_geti rfl rfl rfl (fun _ _ _ => rfl) ?_
      refine a_as (y := nI (gN A 8)) e8 ?_
      refine a_statI rfl rfl (e_sizeAt (gN A 8) (by omega)) (Nat.le_of_ble_eq_true rfl) ⟨rfl, rfl, rfl⟩ rfl rfl rfl (Nat.le_of_ble_eq_true rfl) rfl ?_
      refine a_virt0 rfl rfl (C1) (Nat.le_of_ble_eq_true rfl) ⟨rfl, rfl, rfl, rfl⟩ rfl rfl rfl (Nat.le_of_ble_eq_true rfl) rfl rfl ?_
      refine a_aload_0 rfl rfl ?_
      refine a_getr rfl rfl rfl (fun _ _ _ => rfl) rfl ?_
      refine a_aload_0 rfl rfl ?_
      refine a_getr rfl rfl rfl (fun _ _ _ => rfl) rfl ?_
      refine a_getr rfl rfl rfl (fun _ _ _ => rfl) rfl ?_
      refine a_virtI rfl rfl (C2') (Nat.le_of_ble_eq_true rfl) ⟨rfl, rfl, rfl, rfl⟩ rfl rfl rfl (Nat.le_of_ble_eq_true rfl) rfl rfl ?_
      refine a_ifN_eq rfl rfl rfl (by decide) (fun _ => ?_) (fun c_70 => False.elim (absurd c_70 (by decide)))
      refine a_iinc_3 rfl rfl (nI_inc _ _) rfl ?_
      refine a_goto rfl rfl ?_
      exact Z
theorem l_rwh1 (ok : okA A) (y1 : Value) (i : Nat) (hi : i < gN A 1) (m : Nat) : ∀ (k : Nat) (h : Nat → Nat → Int32) (gl : Nat → Nat → Int64), k + m = gN A 7 → RI A B TX h → (∀ c, c < 30 → h 91 c = frF (frA A) (A 9) c) → ∃ h' gl', CF [87, 90] h h' ∧ ∀ r : Option Value × mvSt, avA 5 319 101 [.ref 81, y1, .int (nI i), .int (bB (whB TX A i)), .int (nI (gN A 7))] [] (sX L t lt rt rp sw h' gl') r → avA 5 319 30 [.ref 81, y1, .int (nI i), .int (bB (prS (ltV ((TX i).1 0) A (gN A 8) (szN (gN A 8)) (A 9)) A 150 k)), .int (nI k)] [] (sX L t lt rt rp sw h gl) r := by
  have l8 := gN_le (m := 9999) ok.1 (i := 8) (by omega) (by decide)
  have n4 := gN_le (m := 4) ok.1 (i := 1) (by omega) (by decide)
  have n8 := gN_le (m := 8) ok.1 (i := 7) (by omega) (by decide)
  have zz := szN_le (gN A 8)
  induction m with
  | zero =>
    intro k h gl hk H hX
    have e7 : h 82 7 = nI (gN A 7) := by rw [H.1]; exact gN_eq ok.1 (by omega) (by decide)
    have e : k = gN A 7 := by omega
    subst e
    refine ⟨h, gl, CF_refl, fun r Z => ?_⟩
    refine a_iload_4 rfl rfl ?_
    refine a_aload_0 rfl rfl ?_
    refine a_getr rfl rfl rfl (fun _ _ _ => rfl) rfl ?_
    refine a_bipush (v := (nI 7)) rfl rfl rfl ?_
    refine a_iald rfl rfl (Or.inl rfl) rfl (by omega) (by decide) ?_
    refine a_as (y := nI (gN A 7)) e7 ?_
    refine a_cmpN_ge rfl rfl rfl (by omega) (by omega) (fun _ => ?_) (fun c_39 => False.elim (by omega))
    exact Z
  | succ m ih =>
    intro k h gl hk H hX
    have e7 : h 82 7 = nI (gN A 7) := by rw [H.1]; exact gN_eq ok.1 (by omega) (by decide)
    have e8 : h 82 8 = nI (gN A 8) := by rw [H.1]; exact gN_eq ok.1 (by omega) (by decide)
    obtain ⟨⟨v1, v2⟩, v3, v4⟩ := pr_v ok 150 k (by omega) (by omega)
    cases q : prS (ltV ((TX i).1 0) A (gN A 8) (szN (gN A 8)) (A 9)) A 150 k with
    | false =>
      obtain ⟨h', gl', c, K⟩ := ih (k + 1) h gl (by omega) H hX
      refine ⟨h', gl', c, fun r Z => ?_⟩
      have A1 := K r Z
      rw [prS, q, Bool.false_and] at A1
      refine a_iload_4 rfl rfl ?_
      refine a_aload_0 rfl rfl ?_
      refine a_getr rfl rfl rfl (fun _ _ _ => rfl) rfl ?_
      refine a_bipush (v := (nI 7)) rfl rfl rfl ?_
      refine a_iald rfl rfl (Or.inl rfl) rfl (by omega) (by decide) ?_
      refine a_as (y := nI (gN A 7)) e7 ?_
      refine a_cmpN_ge rfl rfl rfl (by omega) (by omega) (fun c_39 => False.elim (by omega)) (fun _ => ?_)
      refine a_iload_3 rfl rfl ?_
      refine a_ifN_eq rfl rfl rfl (by decide) (fun _ => ?_) (fun c_43 => False.elim (absurd c_43 (by decide)))
      refine a_iconst (v := (nI 0)) rfl rfl rfl ?_
      refine a_istore_3 rfl rfl rfl ?_
      refine a_iinc_4 rfl rfl (nI_inc _ _) rfl ?_
      refine a_goto rfl rfl ?_
      exact A1
    | true =>
      obtain ⟨h1, gl1, C1, c1⟩ := r_shinesOf (L := L) (t := t) (lt := lt) (rt := rt) (rp := rp) (sw := sw) (gl := gl) (nI i) (gN A (150 + 2 * k)) (gN A 8) (szN (gN A 8)) (A 9) ((TX i).1 0) v2 l8 zz e8 (by rw [H.1]; exact rOK_clOK ok.1) (Or.inr ⟨i, by omega, rfl, (H.2.2.2 i hi).2 0 (by omega)⟩) (by rw [H.1]; exact hX _ v2)
      rw [H.1] at C1
      have lv := ltV_le ((TX i).1 0) A (gN A 8) (szN (gN A 8)) (A 9) (gN A (150 + 2 * k))
      have H1 : RI A B TX h1 := RI_cf H rfl c1
      obtain ⟨h', gl', c, K⟩ := ih (k + 1) h1 gl1 (by omega) H1 (by rw [c1 91 rfl]; exact hX)
      refine ⟨h', gl', CF_trans c1 c, fun r Z => ?_⟩
      have A1 := K r Z
      rw [prS, q, Bool.true_and] at A1
      refine a_iload_4 rfl rfl ?_
      refine a_aload_0 rfl rfl ?_
      refine a_getr rfl rfl rfl (fun _ _ _ => rfl) rfl ?_
      refine a_bipush (v := (nI 7)) rfl rfl rfl ?_
      refine a_iald rfl rfl (Or.inl rfl) rfl (by omega) (by decide) ?_
      refine a_as (y := nI (gN A 7)) e7 ?_
      refine a_cmpN_ge rfl rfl rfl (by omega) (by omega) (fun c_39 => False.elim (by omega)) (fun _ => ?_)
      refine a_iload_3 rfl rfl ?_
      refine a_ifN_eq rfl rfl rfl (by decide) (fun c_43 => False.elim (absurd c_43 (by decide))) (fun _ => ?_)
      refine a_aload_0 rfl rfl ?_
      refine a_iload_2 rfl rfl ?_
      refine a_aload_0 rfl rfl ?_
      refine a_getr rfl rfl rfl (fun _ _ _ => rfl) rfl ?_
      refine a_sipush (v := (nI 150)) rfl rfl rfl ?_
      refine a_iconst (v := (nI 2)) rfl rfl rfl ?_
      refine a_iload_4 rfl rfl ?_
      refine a_imulN rfl rfl ?_
      refine a_iaddN rfl rfl ?_
      refine a_iald rfl rfl (Or.inl rfl) rfl (by omega) (by decide) ?_
      refine a_as (y := nI (gN A (150 + 2 * k))) (by rw [H.1]; exact v1) ?_
      refine a_aload_0 rfl rfl ?_
      refine a_virtI rfl rfl (r_phase (gN A 8) l8 e8) (Nat.le_of_ble_eq_true rfl) ⟨rfl, rfl, rfl, rfl⟩ rfl rfl rfl (Nat.le_of_ble_eq_true rfl) rfl rfl ?_
      refine a_statI rfl rfl (r_sizeOf (gN A 8 / 24 % 30) (by omega)) (Nat.le_of_ble_eq_true rfl) ⟨rfl, rfl, rfl⟩ rfl rfl rfl (Nat.le_of_ble_eq_true rfl) rfl ?_
      refine a_as (y := nI (szN (gN A 8))) rfl ?_
      refine a_virtI rfl rfl (C1) (Nat.le_of_ble_eq_true rfl) ⟨rfl, rfl, rfl, rfl⟩ rfl rfl rfl (Nat.le_of_ble_eq_true rfl) rfl rfl ?_
      refine a_aload_0 rfl rfl ?_
      refine a_getr rfl rfl rfl (fun _ _ _ => rfl) rfl ?_
      refine a_sipush (v := (nI 150)) rfl rfl rfl ?_
      refine a_iconst (v := (nI 2)) rfl rfl rfl ?_
      refine a_iload_4 rfl rfl ?_
      refine a_imulN rfl rfl ?_
      refine a_iaddN rfl rfl ?_
      refine a_iconst (v := (nI 1)) rfl rfl rfl ?_
      refine a_iaddN rfl rfl ?_
      refine a_iald rfl rfl (Or.inl rfl) rfl (by omega) (by decide) ?_
      refine a_as (y := nI (gN A (150 + 2 * k + 1))) (by rw [H1.1]; exact v3) ?_
      refine a_cmpN_ne rfl rfl rfl (by omega) (by omega) (fun c_86 => ?_) (fun c_86 => ?_)
      · refine a_iconst (v := (nI 0)) rfl rfl rfl ?_
        refine a_istore_3 rfl rfl rfl ?_
        refine a_iinc_4 rfl rfl (nI_inc _ _) rfl ?_
        refine a_goto rfl rfl ?_
        first | (rw [decide_eq_true c_86] at A1; exact A1) | (rw [decide_eq_false c_86] at A1; exact A1)
      · refine a_iconst (v := (nI 1)) rfl rfl rfl ?_
        refine a_goto rfl rfl ?_
        refine a_istore_3 rfl rfl rfl ?_
        refine a_iinc_4 rfl rfl (nI_inc _ _) rfl ?_
        refine a_goto rfl rfl ?_
        first | (rw [decide_eq_true c_86] at A1; exact A1) | (rw [decide_eq_false c_86] at A1; exact A1)
theorem l_rwh2 (ok : okA A) (m : Nat) : ∀ (i : Nat) (y3 y4 : Value) (h : Nat → Nat → Int32) (gl : Nat → Nat → Int64), mvIsL y3 = false → i + m = gN A 1 → RI A B TX h → (∀ c, c < 30 → h 91 c = frF (frA A) (A 9) c) → ∃ h' gl', avA 5 319 15 [.ref 81, .int (bsI i (whB TX A)), .int (nI i), y3, y4] [] (sX L t lt rt rp sw h gl) (some (.int (bsI (gN A 1) (whB TX A))), sX L t lt rt rp sw h' gl') ∧ CF [87, 90] h h' := by
  have n4 := gN_le (m := 4) ok.1 (i := 1) (by omega) (by decide)
  induction m with
  | zero =>
    intro i y3 y4 h gl hy hi H hX
    have e1 : h 82 1 = nI (gN A 1) := by rw [H.1]; exact gN_eq ok.1 (by omega) (by decide)
    have e : i = gN A 1 := by omega
    subst e
    refine ⟨h, gl, ?_, CF_refl⟩
    refine a_iload_2 rfl rfl ?_
    refine a_aload_0 rfl rfl ?_
    refine a_getr rfl rfl rfl (fun _ _ _ => rfl) rfl ?_
    refine a_iconst (v := (nI 1)) rfl rfl rfl ?_
    refine a_iald rfl rfl (Or.inl rfl) rfl (by omega) (by decide) ?_
    refine a_as (y := nI (gN A 1)) e1 ?_
    refine a_cmpN_ge rfl rfl rfl (by omega) (by omega) (fun _ => ?_) (fun c_22 => False.elim (by omega))
    refine a_iload_1 rfl rfl ?_
    exact a_iret rfl rfl
  | succ m ih =>
    intro i y3 y4 h gl hy hi H hX
    have e1 : h 82 1 = nI (gN A 1) := by rw [H.1]; exact gN_eq ok.1 (by omega) (by decide)
    obtain ⟨h1, gl1, c1, K⟩ := l_rwh1 (L := L) (t := t) (lt := lt) (rt := rt) (rp := rp) (sw := sw) ok (.int (bsI i (whB TX A))) i (by omega) (gN A 7) 0 h gl (by omega) H hX
    obtain ⟨h', gl', Z, c⟩ := ih (i + 1) (.int (bB (whB TX A i))) (.int (nI (gN A 7))) h1 gl1 rfl (by omega) (RI_cf H rfl c1) (by rw [c1 91 rfl]; exact hX)
    refine ⟨h', gl', ?_, CF_trans c1 c⟩
    cases q : whB TX A i with
    | true =>
      rw [q] at K
      rw [← bs_succT (p := whB TX A) (by omega) q, q] at Z
      refine a_iload_2 rfl rfl ?_
      refine a_aload_0 rfl rfl ?_
      refine a_getr rfl rfl rfl (fun _ _ _ => rfl) rfl ?_
      refine a_iconst (v := (nI 1)) rfl rfl rfl ?_
      refine a_iald rfl rfl (Or.inl rfl) rfl (by omega) (by decide) ?_
      refine a_as (y := nI (gN A 1)) e1 ?_
      refine a_cmpN_ge rfl rfl rfl (by omega) (by omega) (fun c_22 => False.elim (by omega)) (fun _ => ?_)
      refine a_iconst (v := (nI 1)) rfl rfl rfl ?_
      refine a_istore_3 rfl rfl rfl ?_
      refine a_iconst (v := (nI 0)) rfl rfl rfl ?_
      refine a_istore_4 rfl rfl rfl ?_
      refine K _ ?_
      refine a_iload_1 rfl rfl ?_
      refine a_iload_3 rfl rfl ?_
      refine a_ifN_eq rfl rfl rfl (by decide) (fun c_103 => False.elim (absurd c_103 (by decide))) (fun _ => ?_)
      refine a_iconst (v := (nI 1)) rfl rfl rfl ?_
      refine a_iload_2 rfl rfl ?_
      refine a_ishl rfl rfl ?_
      refine a_goto rfl rfl ?_
      refine a_ior rfl rfl ?_
      refine a_istore_1 rfl rfl rfl ?_
      refine a_iinc_2 rfl rfl (nI_inc _ _) rfl ?_
      refine a_goto rfl rfl ?_
      exact Z
    | false =>
      rw [q] at K
      rw [bs_succF (p := whB TX A) q, q] at Z
      refine a_iload_2 rfl rfl ?_
      refine a_aload_0 rfl rfl ?_
      refine a_getr rfl rfl rfl (fun _ _ _ => rfl) rfl ?_
      refine a_iconst (v := (nI 1)) rfl rfl rfl ?_
      refine a_iald rfl rfl (Or.inl rfl) rfl (by omega) (by decide) ?_
      refine a_as (y := nI (gN A 1)) e1 ?_
      refine a_cmpN_ge rfl rfl rfl (by omega) (by omega) (fun c_22 => False.elim (by omega)) (fun _ => ?_)
      refine a_iconst (v := (nI 1)) rfl rfl rfl ?_
      refine a_istore_3 rfl rfl rfl ?_
      refine a_iconst (v := (nI 0)) rfl rfl rfl ?_
      refine a_istore_4 rfl rfl rfl ?_
      refine K _ ?_
      refine a_iload_1 rfl rfl ?_
      refine a_iload_3 rfl rfl ?_
      refine a_ifN_eq rfl rfl rfl (by decide) (fun _ => ?_) (fun c_103 => False.elim (absurd c_103 (by decide)))
      refine a_iconst (v := (nI 0)) rfl rfl rfl ?_
      refine a_ior rfl rfl ?_
      refine a_istore_1 rfl rfl rfl ?_
      refine a_iinc_2 rfl rfl (nI_inc _ _) rfl ?_
      refine a_goto rfl rfl ?_
      rw [show nI 0 = 0 from rfl, Int32.or_zero]; exact Z
theorem p_whose (hA : okA A) : ∃ r, opP 4 4 169 [.ref 7] 5 319 [.ref 81] TX A B r A B := by
  have n4 := gN_le (m := 4) hA.1 (i := 1) (by omega) (by decide)
  refine ⟨bsI (gN A 1) (whB TX A), ?_, ?_, hA, rfl⟩
  · intro L t lt rt rp sw h gl R H hR
    obtain ⟨h', lt', R', Z, c, H', r1, r2⟩ := l_cwhose (L := L) (t := t) (rt := rt) (rp := rp) (sw := sw) (gl := gl) (gN A 1) 0 R lt h (by omega) H (by omega)
    refine ⟨h', lt', R', sw, ?_, c, H', r1, by omega⟩
    show avA _ 169 0 [.ref 7, mvU, mvU, mvU] [] _ _
    refine a_aload_0 rfl rfl ?_
    refine a_getr rfl rfl rfl (fun _ _ _ => rfl) rfl ?_
    refine a_getr rfl rfl rfl (fun _ _ _ => rfl) rfl ?_
    refine a_astore_1 rfl rfl rfl ?_
    refine a_iconst (v := (nI 0)) rfl rfl rfl ?_
    refine a_istore_2 rfl rfl rfl ?_
    refine a_iconst (v := (nI 0)) rfl rfl rfl ?_
    refine a_istore_3 rfl rfl rfl ?_
    exact Z
  · intro L t lt rt rp sw h gl ok H
    have H1 : RI A B TX (va_up h 91 (rw1 30 (farA (h 82) (A 9)) (h 91))) := RI_cf H (S := [91]) rfl (CF_up CF_refl rfl)
    obtain ⟨h', gl', Z, c⟩ := l_rwh2 (L := L) (t := t) (lt := lt) (rt := rt) (rp := rp) (sw := sw) ok (gN A 1) 0 mvU mvU (va_up h 91 (rw1 30 (farA (h 82) (A 9)) (h 91))) gl rfl (by omega) H1 (fun c hc => by rw [va_up_self, rw1_lt hc, H.1]; rfl)
    refine ⟨h', gl', ?_, CF_trans (CF_up CF_refl rfl) (CF_rf rfl c), fun j hj => by rw [c 81 rfl]; rfl, RI_cf H1 rfl c⟩
    show avA _ 319 0 [.ref 81, mvU, mvU, mvU, mvU] [] _ _
    refine a_aload_0 rfl rfl ?_
    refine a_aload_0 rfl rfl ?_
    refine a_getr rfl rfl rfl (fun _ _ _ => rfl) rfl ?_
    refine a_bipush (v := (nI 9)) rfl rfl rfl ?_
    refine a_iald rfl rfl (Or.inl rfl) rfl (by omega) (by decide) ?_
    refine a_as (y := A 9) (by rw [H.1]) ?_
    refine a_virt0 rfl rfl (r_layFar (A 9)) (Nat.le_of_ble_eq_true rfl) ⟨rfl, rfl, rfl, rfl⟩ rfl rfl rfl (Nat.le_of_ble_eq_true rfl) rfl rfl ?_
    refine a_iconst (v := (nI 0)) rfl rfl rfl ?_
    refine a_istore_1 rfl rfl rfl ?_
    refine a_iconst (v := (nI 0)) rfl rfl rfl ?_
    refine a_istore_2 rfl rfl rfl ?_
    exact Z
end RB2
