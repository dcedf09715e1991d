/-! QUESTIONS: who is alone, when the moon has a size, what is lit, ways and rooms, floods -/
section LO
variable {L t : Nat} {lt rt rp : Option Nat} {sw : Bool} {gl : Nat → Nat → Int64} {A B : Nat → Int32} {TX : Nat → Txt} {R : Nat}
theorem l_alone (b : Nat) (hb : b < gN A 0) (m : Nat) : ∀ (e : Nat) (h : Nat → Nat → Int32), e + m = gN A 0 → CI A B TX R t lt h → alR A b e = true → ∃ h', avA 3 174 10 [.ref 7, .int (nI b), .ref 14, .int (nI e)] [] (sX L t lt rt rp sw h gl) (some (.int (bB (alR A b (gN A 0)))), sX L t lt rt rp sw h' gl) ∧ CF [9, 10] h h' ∧ CI A B TX R t lt h' := by
  induction m with
  | zero =>
    intro e h he H ha
    obtain ⟨e4, h5⟩ := CI_e4 H
    have ee : e = gN A 0 := by omega
    subst ee
    refine ⟨h, ?_, CF_refl, H⟩
    rw [ha]
    refine a_iload_3 rfl rfl ?_
    refine a_aload_2 rfl rfl ?_
    refine a_geti rfl rfl rfl (fun _ _ _ => rfl) ?_
    refine a_as (y := nI (gN A 0)) e4 ?_
    refine a_cmpN_ge rfl rfl rfl (by omega) (by omega) (fun _ => ?_) (fun c_15 => False.elim (by omega))
    refine a_iconst (v := (nI 1)) rfl rfl rfl ?_
    exact a_zret rfl rfl (Or.inr rfl)
  | succ m ih =>
    intro e h he H ha
    obtain ⟨e4, h5⟩ := CI_e4 H
    by_cases q : e = b
    · have a1 : alR A b (e + 1) = true := by rw [alR, ha, q]; simp
      obtain ⟨h', Z, c, H'⟩ := ih (e + 1) h (by omega) H a1
      refine ⟨h', ?_, c, H'⟩
      refine a_iload_3 rfl rfl ?_
      refine a_aload_2 rfl rfl ?_
      refine a_geti rfl rfl rfl (fun _ _ _ => rfl) ?_
      refine a_as (y := nI (gN A 0)) e4 ?_
      refine a_cmpN_ge rfl rfl rfl (by omega) (by omega) (fun c_15 => False.elim (by omega)) (fun _ => ?_)
      refine a_iload_3 rfl rfl ?_
      refine a_iload_1 rfl rfl ?_
      refine a_cmpN_eq rfl rfl rfl (by omega) (by omega) (fun _ => ?_) (fun c_20 => False.elim (by omega))
      refine a_iinc_3 rfl rfl (nI_inc _ _) rfl ?_
      refine a_goto rfl rfl ?_
      exact Z
    · have z1 : h 15 b = A (13 + 5 * b) := (H.2.2.2.1.2.1.2.2.2.2.2 b hb).1
      have z2 : h 15 e = A (13 + 5 * e) := (H.2.2.2.1.2.1.2.2.2.2.2 e (by omega)).1
      obtain ⟨F, G, C, P⟩ := e_between (L := L) (t := t) (lt := lt) (rt := rt) (rp := rp) (sw := sw) (gl := gl) (A (13 + 5 * b)) (A (13 + 5 * e)) (frA A) (CI_rP H)
      have H1 := CI_path H P
      by_cases w : btw (frA A) (A (13 + 5 * b)) (A (13 + 5 * e)) = -1
      · have a1 : alR A b (e + 1) = true := by rw [alR, ha, w]; simp
        obtain ⟨h', Z, c, H'⟩ := ih (e + 1) _ (by omega) H1 a1
        refine ⟨h', ?_, CF_trans CF_path c, H'⟩
        rw [w] at C
        refine a_iload_3 rfl rfl ?_
        refine a_aload_2 rfl rfl ?_
        refine a_geti rfl rfl rfl (fun _ _ _ => rfl) ?_
        refine a_as (y := nI (gN A 0)) e4 ?_
        refine a_cmpN_ge rfl rfl rfl (by omega) (by omega) (fun c_15 => False.elim (by omega)) (fun _ => ?_)
        refine a_iload_3 rfl rfl ?_
        refine a_iload_1 rfl rfl ?_
        refine a_cmpN_eq rfl rfl rfl (by omega) (by omega) (fun c_20 => False.elim (by omega)) (fun _ => ?_)
        refine a_aload_0 rfl rfl ?_
        refine a_getr rfl rfl rfl (fun _ _ _ => rfl) rfl ?_
        refine a_aload_2 rfl rfl ?_
        refine a_getr rfl rfl rfl (fun _ _ _ => rfl) rfl ?_
        refine a_iload_1 rfl rfl ?_
        refine a_iald rfl rfl (Or.inl rfl) rfl (by omega) (by decide) ?_
        refine a_as (y := _) z1 ?_
        refine a_aload_2 rfl rfl ?_
        refine a_getr rfl rfl rfl (fun _ _ _ => rfl) rfl ?_
        refine a_iload_3 rfl rfl ?_
        refine a_iald rfl rfl (Or.inl rfl) rfl (by omega) (by decide) ?_
        refine a_as (y := _) z2 ?_
        refine a_virtI rfl rfl (C) (Nat.le_of_ble_eq_true rfl) ⟨rfl, rfl, rfl, rfl⟩ rfl rfl rfl (Nat.le_of_ble_eq_true rfl) rfl rfl ?_
        refine a_iconst (v := (-1)) rfl rfl rfl ?_
        refine a_cmp_eq rfl rfl rfl (fun _ => ?_) (fun c_43 => by first | exact absurd rfl c_43 | exact absurd c_43 rfl)
        refine a_iinc_3 rfl rfl (nI_inc _ _) rfl ?_
        refine a_goto rfl rfl ?_
        exact Z
      · have a1 : alR A b (e + 1) = false := by rw [alR, ha]; simp [q, w]
        have a2 := alR_F (n := gN A 0) a1 (by omega)
        refine ⟨_, ?_, CF_path, H1⟩
        rw [a2]
        refine a_iload_3 rfl rfl ?_
        refine a_aload_2 rfl rfl ?_
        refine a_geti rfl rfl rfl (fun _ _ _ => rfl) ?_
        refine a_as (y := nI (gN A 0)) e4 ?_
        refine a_cmpN_ge rfl rfl rfl (by omega) (by omega) (fun c_15 => False.elim (by omega)) (fun _ => ?_)
        refine a_iload_3 rfl rfl ?_
        refine a_iload_1 rfl rfl ?_
        refine a_cmpN_eq rfl rfl rfl (by omega) (by omega) (fun c_20 => False.elim (by omega)) (fun _ => ?_)
        refine a_aload_0 rfl rfl ?_
        refine a_getr rfl rfl rfl (fun _ _ _ => rfl) rfl ?_
        refine a_aload_2 rfl rfl ?_
        refine a_getr rfl rfl rfl (fun _ _ _ => rfl) rfl ?_
        refine a_iload_1 rfl rfl ?_
        refine a_iald rfl rfl (Or.inl rfl) rfl (by omega) (by decide) ?_
        refine a_as (y := _) z1 ?_
        refine a_aload_2 rfl rfl ?_
        refine a_getr rfl rfl rfl (fun _ _ _ => rfl) rfl ?_
        refine a_iload_3 rfl rfl ?_
        refine a_iald rfl rfl (Or.inl rfl) rfl (by omega) (by decide) ?_
        refine a_as (y := _) z2 ?_
        refine a_virtI rfl rfl (C) (Nat.le_of_ble_eq_true rfl) ⟨rfl, rfl, rfl, rfl⟩ rfl rfl rfl (Nat.le_of_ble_eq_true rfl) rfl rfl ?_
        refine a_iconst (v := (-1)) rfl rfl rfl ?_
        refine a_cmp_eq rfl rfl rfl (fun c_43 => by first | exact absurd c_43 w | exact absurd w c_43) (fun _ => ?_)
        refine a_iconst (v := (nI 0)) rfl rfl rfl ?_
        exact a_zret rfl rfl (Or.inl rfl)
theorem l_clonely (m : Nat) : ∀ (b : Nat) (h : Nat → Nat → Int32), b + m = gN A 0 → CI A B TX R t lt h → ∃ h', avA 4 173 4 [.ref 7, .int (bsI b (fun b => alR A b (gN A 0))), .int (nI b)] [] (sX L t lt rt rp sw h gl) (some (.int (bsI (gN A 0) (fun b => alR A b (gN A 0)))), sX L t lt rt rp sw h' gl) ∧ CF [9, 10] h h' ∧ CI A B TX R t lt h' := by
  induction m with
  | zero =>
    intro b h hb H
    obtain ⟨e4, h5⟩ := CI_e4 H
    have ee : b = gN A 0 := by omega
    subst ee
    refine ⟨h, ?_, CF_refl, H⟩
    refine a_iload_2 rfl rfl ?_
    refine a_aload_0 rfl rfl ?_
    refine a_getr rfl rfl rfl (fun _ _ _ => rfl) rfl ?_
    refine a_getr rfl rfl rfl (fun _ _ _ => rfl) rfl ?_
    refine a_geti rfl rfl rfl (fun _ _ _ => rfl) ?_
    refine a_as (y := nI (gN A 0)) e4 ?_
    refine a_cmpN_ge rfl rfl rfl (by omega) (by omega) (fun _ => ?_) (fun c_15 => False.elim (by omega))
    refine a_iload_1 rfl rfl ?_
    exact a_iret rfl rfl
  | succ m ih =>
    intro b h hb H
    obtain ⟨e4, h5⟩ := CI_e4 H
    obtain ⟨h1, Z1, c1, H1⟩ := l_alone (L := L) (rt := rt) (rp := rp) (sw := sw) (gl := gl) b (by omega) (gN A 0) 0 h (by omega) H rfl
    have C1 : avE 3 174 [.ref 7, .int (nI b)] (sX L t lt rt rp sw h gl) (some (.int (bB (alR A b (gN A 0)))), sX L t lt rt rp sw h1 gl) := by
      show avA _ 174 0 [.ref 7, .int (nI (b)), mvU, mvU] [] _ _
      refine a_aload_0 rfl rfl ?_
      refine a_getr rfl rfl rfl (fun _ _ _ => rfl) rfl ?_
      refine a_getr rfl rfl rfl (fun _ _ _ => rfl) rfl ?_
      refine a_astore_2 rfl rfl rfl ?_
      refine a_iconst (v := (nI 0)) rfl rfl rfl ?_
      refine a_istore_3 rfl rfl rfl ?_
      exact Z1
    obtain ⟨h', Z, c, H'⟩ := ih (b + 1) h1 (by omega) H1
    refine ⟨h', ?_, CF_trans c1 c, H'⟩
    cases q : alR A b (gN A 0) with
    | true =>
      rw [q] at C1
      rw [← bs_succT (p := fun b => alR A b (gN A 0)) (by omega) q] at Z
      refine a_iload_2 rfl rfl ?_
      refine a_aload_0 rfl rfl ?_
      refine a_getr rfl rfl rfl (fun _ _ _ => rfl) rfl ?_
      refine a_getr rfl rfl rfl (fun _ _ _ => rfl) rfl ?_
      refine a_geti rfl rfl rfl (fun _ _ _ => rfl) ?_
      refine a_as (y := nI (gN A 0)) e4 ?_
      refine a_cmpN_ge rfl rfl rfl (by omega) (by omega) (fun c_15 => False.elim (by omega)) (fun _ => ?_)
      refine a_aload_0 rfl rfl ?_
      refine a_iload_2 rfl rfl ?_
      refine a_virtI rfl rfl (C1) (Nat.le_of_ble_eq_true rfl) ⟨rfl, rfl, rfl, rfl⟩ rfl rfl rfl (Nat.le_of_ble_eq_true rfl) rfl rfl ?_
      refine a_ifN_eq rfl rfl rfl (by decide) (fun c_23 => False.elim (absurd c_23 (by decide))) (fun _ => ?_)
      refine a_iload_1 rfl rfl ?_
      refine a_iconst (v := (nI 1)) rfl rfl rfl ?_
      refine a_iload_2 rfl rfl ?_
      refine a_ishl rfl rfl ?_
      refine a_ior rfl rfl ?_
      refine a_istore_1 rfl rfl rfl ?_
      refine a_iinc_2 rfl rfl (nI_inc _ _) rfl ?_
      refine a_goto rfl rfl ?_
      exact Z
    | false =>
      rw [q] at C1
      rw [bs_succF (p := fun b => alR A b (gN A 0)) q] at Z
      refine a_iload_2 rfl rfl ?_
      refine a_aload_0 rfl rfl ?_
      refine a_getr rfl rfl rfl (fun _ _ _ => rfl) rfl ?_
      refine a_getr rfl rfl rfl (fun _ _ _ => rfl) rfl ?_
      refine a_geti rfl rfl rfl (fun _ _ _ => rfl) ?_
      refine a_as (y := nI (gN A 0)) e4 ?_
      refine a_cmpN_ge rfl rfl rfl (by omega) (by omega) (fun c_15 => False.elim (by omega)) (fun _ => ?_)
      refine a_aload_0 rfl rfl ?_
      refine a_iload_2 rfl rfl ?_
      refine a_virtI rfl rfl (C1) (Nat.le_of_ble_eq_true rfl) ⟨rfl, rfl, rfl, rfl⟩ rfl rfl rfl (Nat.le_of_ble_eq_true rfl) rfl rfl ?_
      refine a_ifN_eq rfl rfl rfl (by decide) (fun _ => ?_) (fun c_23 => False.elim (absurd c_23 (by decide)))
      refine a_iinc_2 rfl rfl (nI_inc _ _) rfl ?_
      refine a_goto rfl rfl ?_
      exact Z
theorem at_c (ok : okA A) (b : Nat) (hb : b < 5) : ∃ c, c < 30 ∧ A (13 + 5 * b) = nI c := by
  have ba := ok.1 (13 + 5 * b) (by omega)
  unfold inB at ba
  rw [bd_at hb] at ba
  dsimp only at ba
  exact inC_of ⟨by omega, by omega⟩
theorem l_rlon1 (ok : okA A) (y1 : Value) (b : Nat) (hb : b < gN A 0) (m : Nat) : ∀ (e : Nat) (h : Nat → Nat → Int32), e + m = gN A 0 → RI A B TX h → ∃ h', CF [91] h h' ∧ RI A B TX h' ∧ ∀ r : Option Value × mvSt, avA 6 283 73 [.ref 81, y1, .int (nI b), .int (nI (otN A b (gN A 0))), .int (nI (gN A 0))] [] (sX L t lt rt rp sw h' gl) r → avA 6 283 19 [.ref 81, y1, .int (nI b), .int (nI (otN A b e)), .int (nI e)] [] (sX L t lt rt rp sw h gl) r := by
  have h5 := gN_le (m := 5) ok.1 (i := 0) (by omega) (by decide)
  induction m with
  | zero =>
    intro e h he H
    have e0 : h 82 0 = nI (gN A 0) := by rw [H.1]; exact gN_eq ok.1 (by omega) (by decide)
    have ee : e = gN A 0 := by omega
    subst ee
    refine ⟨h, CF_refl, H, fun r Z => ?_⟩
    refine a_iload_4 rfl rfl ?_
    refine a_aload_0 rfl rfl ?_
    refine a_getr rfl rfl rfl (fun _ _ _ => rfl) rfl ?_
    refine a_iconst (v := (nI 0)) rfl rfl rfl ?_
    refine a_iald rfl rfl (Or.inl rfl) rfl (by omega) (by decide) ?_
    refine a_as (y := nI (gN A 0)) e0 ?_
    refine a_cmpN_ge rfl rfl rfl (by omega) (by omega) (fun _ => ?_) (fun c_27 => False.elim (by omega))
    exact Z
  | succ m ih =>
    intro e h he H
    have e0 : h 82 0 = nI (gN A 0) := by rw [H.1]; exact gN_eq ok.1 (by omega) (by decide)
    by_cases q : e = b
    · obtain ⟨h', c, H', K⟩ := ih (e + 1) h (by omega) H
      refine ⟨h', c, H', fun r Z => ?_⟩
      have A1 := K r Z
      rw [otN, if_neg (fun z => z.1 q), Nat.add_zero] at A1
      refine a_iload_4 rfl rfl ?_
      refine a_aload_0 rfl rfl ?_
      refine a_getr rfl rfl rfl (fun _ _ _ => rfl) rfl ?_
      refine a_iconst (v := (nI 0)) rfl rfl rfl ?_
      refine a_iald rfl rfl (Or.inl rfl) rfl (by omega) (by decide) ?_
      refine a_as (y := nI (gN A 0)) e0 ?_
      refine a_cmpN_ge rfl rfl rfl (by omega) (by omega) (fun c_27 => False.elim (by omega)) (fun _ => ?_)
      refine a_iload_3 rfl rfl ?_
      refine a_iload_4 rfl rfl ?_
      refine a_iload_2 rfl rfl ?_
      refine a_cmpN_eq rfl rfl rfl (by omega) (by omega) (fun _ => ?_) (fun c_34 => False.elim (by omega))
      refine a_iconst (v := (nI 0)) rfl rfl rfl ?_
      refine a_iaddN rfl rfl ?_
      refine a_as (y := nI (otN A b e)) rfl ?_
      refine a_istore_3 rfl rfl rfl ?_
      refine a_iinc_4 rfl rfl (nI_inc _ _) rfl ?_
      refine a_goto rfl rfl ?_
      exact A1
    · obtain ⟨cb, hcb, eb⟩ := at_c ok b (by omega)
      obtain ⟨ce, hce, ec⟩ := at_c ok e (by omega)
      have H1 : RI A B TX (va_up h 91 (rw1 30 (farA (h 82) (A (13 + 5 * b))) (h 91))) := RI_cf H (S := [91]) rfl (CF_up CF_refl rfl)
      obtain ⟨h', c, H', K⟩ := ih (e + 1) _ (by omega) H1
      have ew : btw (frA A) (A (13 + 5 * b)) (A (13 + 5 * e)) = frF (frA A) (A (13 + 5 * b)) ce := by rw [eb, ec, btw_N _ hcb hce]
      have etb : tb (bsI 30 (rmS (frA (h 82)) (A (13 + 5 * b)))) ce = decide (btw (frA A) (A (13 + 5 * b)) (A (13 + 5 * e)) ≠ -1) := by
        rw [tb_bs (by omega), H.1, ew]
        unfold rmS
        simp [hce]
      refine ⟨h', CF_trans (CF_up CF_refl rfl) c, H', fun r Z => ?_⟩
      have A1 := K r Z
      rw [otN] at A1
      refine a_iload_4 rfl rfl ?_
      refine a_aload_0 rfl rfl ?_
      refine a_getr rfl rfl rfl (fun _ _ _ => rfl) rfl ?_
      refine a_iconst (v := (nI 0)) rfl rfl rfl ?_
      refine a_iald rfl rfl (Or.inl rfl) rfl (by omega) (by decide) ?_
      refine a_as (y := nI (gN A 0)) e0 ?_
      refine a_cmpN_ge rfl rfl rfl (by omega) (by omega) (fun c_27 => False.elim (by omega)) (fun _ => ?_)
      refine a_iload_3 rfl rfl ?_
      refine a_iload_4 rfl rfl ?_
      refine a_iload_2 rfl rfl ?_
      refine a_cmpN_eq rfl rfl rfl (by omega) (by omega) (fun c_34 => False.elim (by omega)) (fun _ => ?_)
      refine a_aload_0 rfl rfl ?_
      refine a_aload_0 rfl rfl ?_
      refine a_iload_2 rfl rfl ?_
      refine a_iconst (v := (nI 0)) rfl rfl rfl ?_
      refine a_virtI rfl rfl (r_get b 0 (by omega) (by omega)) (Nat.le_of_ble_eq_true rfl) ⟨rfl, rfl, rfl, rfl⟩ rfl rfl rfl (Nat.le_of_ble_eq_true rfl) rfl rfl ?_
      refine a_as (y := A (13 + 5 * b)) (by rw [H.1, Nat.add_zero]) ?_
      refine a_virtI rfl rfl (r_roomOf (A (13 + 5 * b))) (Nat.le_of_ble_eq_true rfl) ⟨rfl, rfl, rfl, rfl⟩ rfl rfl rfl (Nat.le_of_ble_eq_true rfl) rfl rfl ?_
      refine a_aload_0 rfl rfl ?_
      refine a_iload_4 rfl rfl ?_
      refine a_iconst (v := (nI 0)) rfl rfl rfl ?_
      refine a_virtI rfl rfl (r_get e 0 (by omega) (by omega)) (Nat.le_of_ble_eq_true rfl) ⟨rfl, rfl, rfl, rfl⟩ rfl rfl rfl (Nat.le_of_ble_eq_true rfl) rfl rfl ?_
      refine a_as (y := nI (ce)) (by rw [H1.1, Nat.add_zero]; exact ec) ?_
      refine a_statI rfl rfl (r_has _ ce (by omega)) (Nat.le_of_ble_eq_true rfl) ⟨rfl, rfl, rfl⟩ rfl rfl rfl (Nat.le_of_ble_eq_true rfl) rfl ?_
      refine a_ifb_eq rfl rfl rfl (fun c_57 => ?_) (fun c_57 => ?_)
      · refine a_iconst (v := (nI 0)) rfl rfl rfl ?_
        refine a_iaddN rfl rfl ?_
        refine a_istore_3 rfl rfl rfl ?_
        refine a_iinc_4 rfl rfl (nI_inc _ _) rfl ?_
        refine a_goto rfl rfl ?_
        first | (rw [if_pos ⟨q, by rw [etb] at c_57; exact of_decide_eq_true c_57⟩] at A1; exact A1) | (rw [if_neg (fun z => c_57 (by rw [etb]; exact decide_eq_true z.2))] at A1; exact A1)
      · refine a_iconst (v := (nI 1)) rfl rfl rfl ?_
        refine a_goto rfl rfl ?_
        refine a_iaddN rfl rfl ?_
        refine a_istore_3 rfl rfl rfl ?_
        refine a_iinc_4 rfl rfl (nI_inc _ _) rfl ?_
        refine a_goto rfl rfl ?_
        first | (rw [if_pos ⟨q, by rw [etb] at c_57; exact of_decide_eq_true c_57⟩] at A1; exact A1) | (rw [if_neg (fun z => c_57 (by rw [etb]; exact decide_eq_true z.2))] at A1; exact A1)
theorem l_rlon2 (ok : okA A) (m : Nat) : ∀ (b : Nat) (y3 y4 : Value) (h : Nat → Nat → Int32), mvIsL y3 = false → b + m = gN A 0 → RI A B TX h → ∃ h', avA 6 283 4 [.ref 81, .int (bsI b (fun b => alR A b (gN A 0))), .int (nI b), y3, y4] [] (sX L t lt rt rp sw h gl) (some (.int (bsI (gN A 0) (fun b => alR A b (gN A 0)))), sX L t lt rt rp sw h' gl) ∧ CF [91] h h' ∧ RI A B TX h' := by
  have h5 := gN_le (m := 5) ok.1 (i := 0) (by omega) (by decide)
  induction m with
  | zero =>
    intro b y3 y4 h hy hb H
    have e0 : h 82 0 = nI (gN A 0) := by rw [H.1]; exact gN_eq ok.1 (by omega) (by decide)
    have ee : b = gN A 0 := by omega
    subst ee
    refine ⟨h, ?_, CF_refl, H⟩
    refine a_iload_2 rfl rfl ?_
    refine a_aload_0 rfl rfl ?_
    refine a_getr rfl rfl rfl (fun _ _ _ => rfl) rfl ?_
    refine a_iconst (v := (nI 0)) rfl rfl rfl ?_
    refine a_iald rfl rfl (Or.inl rfl) rfl (by omega) (by decide) ?_
    refine a_as (y := nI (gN A 0)) e0 ?_
    refine a_cmpN_ge rfl rfl rfl (by omega) (by omega) (fun _ => ?_) (fun c_11 => False.elim (by omega))
    refine a_iload_1 rfl rfl ?_
    exact a_iret rfl rfl
  | succ m ih =>
    intro b y3 y4 h hy hb H
    have e0 : h 82 0 = nI (gN A 0) := by rw [H.1]; exact gN_eq ok.1 (by omega) (by decide)
    obtain ⟨h1, c1, H1, K⟩ := l_rlon1 (L := L) (t := t) (lt := lt) (rt := rt) (rp := rp) (sw := sw) (gl := gl) ok (.int (bsI b (fun b => alR A b (gN A 0)))) b (by omega) (gN A 0) 0 h (by omega) H
    obtain ⟨h', Z, c, H'⟩ := ih (b + 1) (.int (nI (otN A b (gN A 0)))) (.int (nI (gN A 0))) h1 rfl (by omega) H1
    have ol := otN_le A b (gN A 0)
    have o0 := otN_0 A b (gN A 0)
    refine ⟨h', ?_, CF_trans c1 c, H'⟩
    refine a_iload_2 rfl rfl ?_
    refine a_aload_0 rfl rfl ?_
    refine a_getr rfl rfl rfl (fun _ _ _ => rfl) rfl ?_
    refine a_iconst (v := (nI 0)) rfl rfl rfl ?_
    refine a_iald rfl rfl (Or.inl rfl) rfl (by omega) (by decide) ?_
    refine a_as (y := nI (gN A 0)) e0 ?_
    refine a_cmpN_ge rfl rfl rfl (by omega) (by omega) (fun c_11 => False.elim (by omega)) (fun _ => ?_)
    refine a_iconst (v := (nI 0)) rfl rfl rfl ?_
    refine a_istore_3 rfl rfl rfl ?_
    refine a_iconst (v := (nI 0)) rfl rfl rfl ?_
    refine a_istore_4 rfl rfl rfl ?_
    refine K _ ?_
    refine a_iload_1 rfl rfl ?_
    refine a_iload_3 rfl rfl ?_
    refine a_ifN_ne rfl rfl rfl (by omega) (fun c_75 => ?_) (fun c_75 => ?_)
    · refine a_iconst (v := (nI 0)) rfl rfl rfl ?_
      refine a_ior rfl rfl ?_
      refine a_istore_1 rfl rfl rfl ?_
      refine a_iinc_2 rfl rfl (nI_inc _ _) rfl ?_
      refine a_goto rfl rfl ?_
      first | (rw [← bs_succT (p := fun b => alR A b (gN A 0)) (by omega) (o0.mp c_75)] at Z; exact Z) | (rw [bs_succF (p := fun b => alR A b (gN A 0)) (Bool.eq_false_iff.mpr fun z => c_75 (o0.mpr z))] at Z; rw [show nI 0 = 0 from rfl, Int32.or_zero]; exact Z)
    · refine a_iconst (v := (nI 1)) rfl rfl rfl ?_
      refine a_iload_2 rfl rfl ?_
      refine a_ishl rfl rfl ?_
      refine a_goto rfl rfl ?_
      refine a_ior rfl rfl ?_
      refine a_istore_1 rfl rfl rfl ?_
      refine a_iinc_2 rfl rfl (nI_inc _ _) rfl ?_
      refine a_goto rfl rfl ?_
      first | (rw [← bs_succT (p := fun b => alR A b (gN A 0)) (by omega) (o0.mp c_75)] at Z; exact Z) | (rw [bs_succF (p := fun b => alR A b (gN A 0)) (Bool.eq_false_iff.mpr fun z => c_75 (o0.mpr z))] at Z; rw [show nI 0 = 0 from rfl, Int32.or_zero]; exact Z)
end LO
section A5
variable {A B : Nat → Int32} {TX : Nat → Txt}
theorem p_lonely (hA : okA A) : ∃ r, opP 0 4 173 [.ref 7] 6 283 [.ref 81] TX A B r A B := by
  refine ⟨bsI (gN A 0) (fun b => alR A b (gN A 0)), ?_, ?_, hA, rfl⟩
  · intro L t lt rt rp sw h gl R H hR
    obtain ⟨h', Z, c, H'⟩ := l_clonely (L := L) (rt := rt) (rp := rp) (sw := sw) (gl := gl) (gN A 0) 0 h (by omega) H
    refine ⟨h', lt, R, sw, ?_, CF_cl rfl c, H', by omega, by omega⟩
    show avA _ 173 0 [.ref 7, mvU, mvU] [] _ _
    refine a_iconst (v := (nI 0)) rfl rfl rfl ?_
    refine a_istore_1 rfl rfl rfl ?_
    refine a_iconst (v := (nI 0)) rfl rfl rfl ?_
    refine a_istore_2 rfl rfl rfl ?_
    exact Z
  · intro L t lt rt rp sw h gl ok H
    obtain ⟨h', Z, c, H'⟩ := l_rlon2 (L := L) (t := t) (lt := lt) (rt := rt) (rp := rp) (sw := sw) (gl := gl) ok (gN A 0) 0 mvU mvU h rfl (by omega) H
    refine ⟨h', gl, ?_, CF_rf rfl c, fun j hj => by rw [c 81 rfl], H'⟩
    show avA _ 283 0 [.ref 81, mvU, mvU, mvU, mvU] [] _ _
    refine a_iconst (v := (nI 0)) rfl rfl rfl ?_
    refine a_istore_1 rfl rfl rfl ?_
    refine a_iconst (v := (nI 0)) rfl rfl rfl ?_
    refine a_istore_2 rfl rfl rfl ?_
    exact Z
end A5
/-! till -/
theorem sz_24 {a b : Nat} (h : a / 24 = b / 24) : szN a = szN b := by unfold szN; rw [h]
theorem till_ex (ho s : Nat) (hs : s ≤ 15) (hne : szN ho ≠ s) : ∃ d, d < 30 ∧ szN (ho + (24 - ho % 24 + d * 24)) = s ∧ (∀ d', d' < d → szN (ho + (24 - ho % 24 + d' * 24)) ≠ s) ∧ ∀ k, k < 24 - ho % 24 + d * 24 → szN (ho + k) ≠ s := by
  have ex : ∃ d, d < 30 ∧ decide (szN (ho + (24 - ho % 24 + d * 24)) = s) = true := by
    refine ⟨(s + 30 - (ho / 24 + 1) % 30) % 30, by omega, decide_eq_true ?_⟩
    have e : (ho + (24 - ho % 24 + (s + 30 - (ho / 24 + 1) % 30) % 30 * 24)) / 24 % 30 = s := by omega
    unfold szN
    rw [e]
    split <;> omega
  obtain ⟨d, h1, h2, h3⟩ := bs_least (n := 30) (p := fun d => decide (szN (ho + (24 - ho % 24 + d * 24)) = s)) ex
  have h3' : ∀ d', d' < d → szN (ho + (24 - ho % 24 + d' * 24)) ≠ s := fun d' hd => of_decide_eq_false (h3 d' hd)
  refine ⟨d, h1, of_decide_eq_true h2, h3', fun k hk => ?_⟩
  by_cases c : k < 24 - ho % 24
  · rw [sz_24 (show (ho + k) / 24 = ho / 24 by omega)]; exact hne
  · have := h3' ((k - (24 - ho % 24)) / 24) (by omega)
    rw [sz_24 (show (ho + k) / 24 = (ho + (24 - ho % 24 + (k - (24 - ho % 24)) / 24 * 24)) / 24 by omega)]
    exact this
section TI
variable {L t : Nat} {lt rt rp : Option Nat} {sw : Bool} {h : Nat → Nat → Int32} {gl : Nat → Nat → Int64}
theorem l_ctill (ho s d : Nat) (hho : ho ≤ 9999) (hs : s ≤ 15) (hd : d < 30) (h1 : szN (ho + (24 - ho % 24 + d * 24)) = s) (h2 : ∀ d', d' < d → szN (ho + (24 - ho % 24 + d' * 24)) ≠ s) (m : Nat) : ∀ (i : Nat) (y5 : Value), i + m = d → avA 2 170 43 [.ref 7, .int (nI s), .int (nI ho), .int (nI (24 - ho % 24)), .int (nI i), y5] [] (sX L t lt rt rp sw h gl) (some (.int (nI (24 - ho % 24 + d * 24))), sX L t lt rt rp sw h gl) := by
  induction m with
  | zero =>
    intro i y5 hi
    have e : i = d := by omega
    subst e
    have z := szN_le (ho + (24 - ho % 24 + i * 24))
    refine a_iload_4 rfl rfl ?_
    refine a_bipush (v := (nI 30)) rfl rfl rfl ?_
    refine a_cmpN_ge rfl rfl rfl (by omega) (by omega) (fun c_47 => False.elim (by omega)) (fun _ => ?_)
    refine a_iload_3 rfl rfl ?_
    refine a_iload_4 rfl rfl ?_
    refine a_bipush (v := (nI 24)) rfl rfl rfl ?_
    refine a_imulN rfl rfl ?_
    refine a_iaddN rfl rfl ?_
    refine a_istore_5 rfl rfl rfl ?_
    refine a_iload_2 rfl rfl ?_
    refine a_iload_5 rfl rfl ?_
    refine a_iaddN rfl rfl ?_
    refine a_statI rfl rfl (e_sizeAt _ (by omega)) (Nat.le_of_ble_eq_true rfl) ⟨rfl, rfl, rfl⟩ rfl rfl rfl (Nat.le_of_ble_eq_true rfl) rfl ?_
    refine a_iload_1 rfl rfl ?_
    refine a_cmpN_ne rfl rfl rfl (by omega) (by omega) (fun c_67 => False.elim (by omega)) (fun _ => ?_)
    refine a_iload_5 rfl rfl ?_
    exact a_iret rfl rfl
  | succ m ih =>
    intro i y5 hi
    have z := szN_le (ho + (24 - ho % 24 + i * 24))
    have n := h2 i (by omega)
    refine a_iload_4 rfl rfl ?_
    refine a_bipush (v := (nI 30)) rfl rfl rfl ?_
    refine a_cmpN_ge rfl rfl rfl (by omega) (by omega) (fun c_47 => False.elim (by omega)) (fun _ => ?_)
    refine a_iload_3 rfl rfl ?_
    refine a_iload_4 rfl rfl ?_
    refine a_bipush (v := (nI 24)) rfl rfl rfl ?_
    refine a_imulN rfl rfl ?_
    refine a_iaddN rfl rfl ?_
    refine a_istore_5 rfl rfl rfl ?_
    refine a_iload_2 rfl rfl ?_
    refine a_iload_5 rfl rfl ?_
    refine a_iaddN rfl rfl ?_
    refine a_statI rfl rfl (e_sizeAt _ (by omega)) (Nat.le_of_ble_eq_true rfl) ⟨rfl, rfl, rfl⟩ rfl rfl rfl (Nat.le_of_ble_eq_true rfl) rfl ?_
    refine a_iload_1 rfl rfl ?_
    refine a_cmpN_ne rfl rfl rfl (by omega) (by omega) (fun _ => ?_) (fun c_67 => False.elim (by omega))
    refine a_iinc_4 rfl rfl (nI_inc _ _) rfl ?_
    refine a_goto rfl rfl ?_
    exact ih (i + 1) _ (by omega)
theorem l_rtill (ho s K : Nat) (hho : ho ≤ 9999) (hs : s ≤ 15) (hK : K < 1000) (e8 : h 82 8 = nI ho) (h1 : szN (ho + K) = s) (h2 : ∀ k, k < K → szN (ho + k) ≠ s) (m : Nat) : ∀ i, i + m = K → avA 1 285 14 [.ref 81, .int (nI s), .int (nI i)] [] (sX L t lt rt rp sw h gl) (some (.int (nI K)), sX L t lt rt rp sw h gl) := by
  induction m with
  | zero =>
    intro i hi
    have e : i = K := by omega
    subst e
    have z := szN_le (ho + i)
    refine a_aload_0 rfl rfl ?_
    refine a_getr rfl rfl rfl (fun _ _ _ => rfl) rfl ?_
    refine a_bipush (v := (nI 8)) rfl rfl rfl ?_
    refine a_iald rfl rfl (Or.inl rfl) rfl (by omega) (by decide) ?_
    refine a_as (y := nI (ho)) e8 ?_
    refine a_iload_2 rfl rfl ?_
    refine a_iaddN rfl rfl ?_
    refine a_bipush (v := (nI 24)) rfl rfl rfl ?_
    refine a_idivN rfl rfl (by omega) (by omega) (by omega) ?_
    refine a_bipush (v := (nI 30)) rfl rfl rfl ?_
    refine a_iremN rfl rfl (by omega) (by omega) (by omega) ?_
    refine a_statI rfl rfl (r_sizeOf _ (by omega)) (Nat.le_of_ble_eq_true rfl) ⟨rfl, rfl, rfl⟩ rfl rfl rfl (Nat.le_of_ble_eq_true rfl) rfl ?_
    refine a_as (y := nI (szN (ho + i))) rfl ?_
    refine a_iload_1 rfl rfl ?_
    refine a_cmpN_eq rfl rfl rfl (by omega) (by omega) (fun _ => ?_) (fun c_33 => False.elim (by omega))
    refine a_iload_2 rfl rfl ?_
    exact a_iret rfl rfl
  | succ m ih =>
    intro i hi
    have z := szN_le (ho + i)
    have n := h2 i (by omega)
    refine a_aload_0 rfl rfl ?_
    refine a_getr rfl rfl rfl (fun _ _ _ => rfl) rfl ?_
    refine a_bipush (v := (nI 8)) rfl rfl rfl ?_
    refine a_iald rfl rfl (Or.inl rfl) rfl (by omega) (by decide) ?_
    refine a_as (y := nI (ho)) e8 ?_
    refine a_iload_2 rfl rfl ?_
    refine a_iaddN rfl rfl ?_
    refine a_bipush (v := (nI 24)) rfl rfl rfl ?_
    refine a_idivN rfl rfl (by omega) (by omega) (by omega) ?_
    refine a_bipush (v := (nI 30)) rfl rfl rfl ?_
    refine a_iremN rfl rfl (by omega) (by omega) (by omega) ?_
    refine a_statI rfl rfl (r_sizeOf _ (by omega)) (Nat.le_of_ble_eq_true rfl) ⟨rfl, rfl, rfl⟩ rfl rfl rfl (Nat.le_of_ble_eq_true rfl) rfl ?_
    refine a_as (y := nI (szN (ho + i))) rfl ?_
    refine a_iload_1 rfl rfl ?_
    refine a_cmpN_eq rfl rfl rfl (by omega) (by omega) (fun c_33 => False.elim (by omega)) (fun _ => ?_)
    refine a_iinc_2 rfl rfl (nI_inc _ _) rfl ?_
    refine a_goto rfl rfl ?_
    exact ih (i + 1) (by omega)
end TI
section A6
variable {A B : Nat → Int32} {TX : Nat → Txt}
theorem p_till (hA : okA A) (v : Int32) : ∃ r, opP 0 2 170 [.ref 7, .int v] 1 285 [.ref 81, .int v] TX A B r A B := by
  have l8 := gN_le (m := 9999) hA.1 (i := 8) (by omega) (by decide)
  have e8 : A 8 = nI (gN A 8) := gN_eq hA.1 (by omega) (by decide)
  have zz := szN_le (gN A 8)
  by_cases hv : 0 ≤ v.toInt ∧ v.toInt ≤ 15
  · obtain ⟨s, hs, rfl, _⟩ := cell_of (x := v) (m := 16) hv.1 (by omega)
    by_cases q : szN (gN A 8) = s
    · refine ⟨nI 0, ?_, ?_, hA, rfl⟩
      · intro L t lt rt rp sw h gl R H hR
        obtain ⟨e14, _⟩ := CI_14 H
        refine ⟨h, lt, R, sw, ?_, CF_refl, H, by omega, by omega⟩
        show avA _ 170 0 [.ref 7, .int (nI (s)), mvU, mvU, mvU, mvU] [] _ _
        refine a_iload_1 rfl rfl ?_
        refine a_bipush (v := (nI 15)) rfl rfl rfl ?_
        refine a_statI rfl rfl (e_isWithin (nI s) 15 (by omega)) (Nat.le_of_ble_eq_true rfl) ⟨rfl, rfl, rfl⟩ rfl rfl rfl (Nat.le_of_ble_eq_true rfl) rfl ?_
        refine a_ifb_ne rfl rfl rfl (fun _ => ?_) (fun c_6 => by first | exact absurd hv c_6 | exact absurd c_6 hv)
        refine a_aload_0 rfl rfl ?_
        refine a_getr rfl rfl rfl (fun _ _ _ => rfl) rfl ?_
        refine a_getr rfl rfl rfl (fun _ _ _ => rfl) rfl ?_
        refine a_geti rfl rfl rfl (fun _ _ _ => rfl) ?_
        refine a_as (y := nI (gN A 8)) e14 ?_
        refine a_istore_2 rfl rfl rfl ?_
        refine a_iload_2 rfl rfl ?_
        refine a_statI rfl rfl (e_sizeAt (gN A 8) (by omega)) (Nat.le_of_ble_eq_true rfl) ⟨rfl, rfl, rfl⟩ rfl rfl rfl (Nat.le_of_ble_eq_true rfl) rfl ?_
        refine a_iload_1 rfl rfl ?_
        refine a_cmpN_ne rfl rfl rfl (by omega) (by omega) (fun c_27 => False.elim (by omega)) (fun _ => ?_)
        refine a_iconst (v := (nI 0)) rfl rfl rfl ?_
        exact a_iret rfl rfl
      · intro L t lt rt rp sw h gl ok H
        refine ⟨h, gl, ?_, CF_refl, fun _ _ => rfl, H⟩
        show avA _ 285 0 [.ref 81, .int (nI (s)), mvU] [] _ _
        refine a_iload_1 rfl rfl ?_
        refine a_iconst (v := (nI 0)) rfl rfl rfl ?_
        refine a_bipush (v := (nI 15)) rfl rfl rfl ?_
        refine a_statI rfl rfl (r_isIn0 (nI s) 0 15 (by omega) (by omega)) (Nat.le_of_ble_eq_true rfl) ⟨rfl, rfl, rfl⟩ rfl rfl rfl (Nat.le_of_ble_eq_true rfl) rfl ?_
        refine a_ifb_ne rfl rfl rfl (fun _ => ?_) (fun c_7 => by first | exact absurd hv c_7 | exact absurd c_7 hv)
        refine a_iconst (v := (nI 0)) rfl rfl rfl ?_
        refine a_istore_2 rfl rfl rfl ?_
        exact l_rtill (gN A 8) s 0 l8 (by omega) (by omega) (by rw [H.1]; exact e8) q (fun k hk => absurd hk (by omega)) 0 0 rfl
    · obtain ⟨d, d1, d2, d3, d4⟩ := till_ex (gN A 8) s (by omega) q
      refine ⟨nI (24 - gN A 8 % 24 + d * 24), ?_, ?_, hA, rfl⟩
      · intro L t lt rt rp sw h gl R H hR
        obtain ⟨e14, _⟩ := CI_14 H
        refine ⟨h, lt, R, sw, ?_, CF_refl, H, by omega, by omega⟩
        show avA _ 170 0 [.ref 7, .int (nI (s)), mvU, mvU, mvU, mvU] [] _ _
        refine a_iload_1 rfl rfl ?_
        refine a_bipush (v := (nI 15)) rfl rfl rfl ?_
        refine a_statI rfl rfl (e_isWithin (nI s) 15 (by omega)) (Nat.le_of_ble_eq_true rfl) ⟨rfl, rfl, rfl⟩ rfl rfl rfl (Nat.le_of_ble_eq_true rfl) rfl ?_
        refine a_ifb_ne rfl rfl rfl (fun _ => ?_) (fun c_6 => by first | exact absurd hv c_6 | exact absurd c_6 hv)
        refine a_aload_0 rfl rfl ?_
        refine a_getr rfl rfl rfl (fun _ _ _ => rfl) rfl ?_
        refine a_getr rfl rfl rfl (fun _ _ _ => rfl) rfl ?_
        refine a_geti rfl rfl rfl (fun _ _ _ => rfl) ?_
        refine a_as (y := nI (gN A 8)) e14 ?_
        refine a_istore_2 rfl rfl rfl ?_
        refine a_iload_2 rfl rfl ?_
        refine a_statI rfl rfl (e_sizeAt (gN A 8) (by omega)) (Nat.le_of_ble_eq_true rfl) ⟨rfl, rfl, rfl⟩ rfl rfl rfl (Nat.le_of_ble_eq_true rfl) rfl ?_
        refine a_iload_1 rfl rfl ?_
        refine a_cmpN_ne rfl rfl rfl (by omega) (by omega) (fun _ => ?_) (fun c_27 => False.elim (by omega))
        refine a_bipush (v := (nI 24)) rfl rfl rfl ?_
        refine a_iload_2 rfl rfl ?_
        refine a_bipush (v := (nI 24)) rfl rfl rfl ?_
        refine a_iremN rfl rfl (by omega) (by omega) (by omega) ?_
        refine a_isubN rfl rfl (by omega) ?_
        refine a_istore_3 rfl rfl rfl ?_
        refine a_iconst (v := (nI 0)) rfl rfl rfl ?_
        refine a_istore_4 rfl rfl rfl ?_
        exact l_ctill (gN A 8) s d l8 (by omega) d1 d2 d3 d 0 _ (by omega)
      · intro L t lt rt rp sw h gl ok H
        refine ⟨h, gl, ?_, CF_refl, fun _ _ => rfl, H⟩
        show avA _ 285 0 [.ref 81, .int (nI (s)), mvU] [] _ _
        refine a_iload_1 rfl rfl ?_
        refine a_iconst (v := (nI 0)) rfl rfl rfl ?_
        refine a_bipush (v := (nI 15)) rfl rfl rfl ?_
        refine a_statI rfl rfl (r_isIn0 (nI s) 0 15 (by omega) (by omega)) (Nat.le_of_ble_eq_true rfl) ⟨rfl, rfl, rfl⟩ rfl rfl rfl (Nat.le_of_ble_eq_true rfl) rfl ?_
        refine a_ifb_ne rfl rfl rfl (fun _ => ?_) (fun c_7 => by first | exact absurd hv c_7 | exact absurd c_7 hv)
        refine a_iconst (v := (nI 0)) rfl rfl rfl ?_
        refine a_istore_2 rfl rfl rfl ?_
        exact l_rtill (gN A 8) s (24 - gN A 8 % 24 + d * 24) l8 (by omega) (by omega) (by rw [H.1]; exact e8) d2 d4 (24 - gN A 8 % 24 + d * 24) 0 (by omega)
  · refine ⟨-1, ?_, ?_, hA, rfl⟩
    · intro L t lt rt rp sw h gl R H hR
      refine ⟨h, lt, R, sw, ?_, CF_refl, H, by omega, by omega⟩
      show avA _ 170 0 [.ref 7, .int (v), mvU, mvU, mvU, mvU] [] _ _
      refine a_iload_1 rfl rfl ?_
      refine a_bipush (v := (nI 15)) rfl rfl rfl ?_
      refine a_statI rfl rfl (e_isWithin v 15 (by omega)) (Nat.le_of_ble_eq_true rfl) ⟨rfl, rfl, rfl⟩ rfl rfl rfl (Nat.le_of_ble_eq_true rfl) rfl ?_
      refine a_ifb_ne rfl rfl rfl (fun c_6 => by first | exact absurd c_6 hv | exact absurd hv c_6) (fun _ => ?_)
      refine a_iconst (v := (-1)) rfl rfl rfl ?_
      exact a_iret rfl rfl
    · intro L t lt rt rp sw h gl ok H
      refine ⟨h, gl, ?_, CF_refl, fun _ _ => rfl, H⟩
      show avA _ 285 0 [.ref 81, .int (v), mvU] [] _ _
      refine a_iload_1 rfl rfl ?_
      refine a_iconst (v := (nI 0)) rfl rfl rfl ?_
      refine a_bipush (v := (nI 15)) rfl rfl rfl ?_
      refine a_statI rfl rfl (r_isIn0 v 0 15 (by omega) (by omega)) (Nat.le_of_ble_eq_true rfl) ⟨rfl, rfl, rfl⟩ rfl rfl rfl (Nat.le_of_ble_eq_true rfl) rfl ?_
      refine a_ifb_ne rfl rfl rfl (fun c_7 => by first | exact absurd c_7 hv | exact absurd hv c_7) (fun _ => ?_)
      refine a_iconst (v := (-1)) rfl rfl rfl ?_
      exact a_iret rfl rfl
end A6
