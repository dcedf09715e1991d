/-! THE REFERENCE'S PARSER: what is open, tokens, the end of one -/
def lv : List Nat → Int32
  | [] => -1
  | _ :: P => nI P.length
theorem lv_dec (P : List Nat) : nI P.length + Int32.ofInt (-((1 : Nat) : Int)) = lv P := by
  match P with
  | [] => rfl
  | o :: P =>
    rw [nI_dec _ 1 (by show 1 ≤ P.length + 1; omega)]
    rfl
theorem lvl_sub (P : List Nat) : nI P.length - nI 1 = lv P := by
  match P with
  | [] => rfl
  | o :: P =>
    rw [pk_sub (by show 1 ≤ P.length + 1; omega)]
    rfl
def oaV : List Nat → Int32
  | [] => -1
  | o :: P => if 40 ≤ o then nI P.length else oaV P
theorem oaV_0 {P : List Nat} (H : opn P = 0) : oaV P = -1 := by
  induction P with
  | nil => rfl
  | cons o P ih =>
    have e : opn (o :: P) = if 40 ≤ o then o else opn P := rfl
    rw [e] at H
    by_cases c : 40 ≤ o
    · rw [if_pos c] at H; omega
    · rw [if_neg c] at H
      exact (if_neg c).trans (ih H)
theorem oaV_n {P : List Nat} {F : Nat → Int32} (S : sPl P F) (H : opn P ≠ 0) : ∃ j, oaV P = nI j ∧ j < P.length ∧ F j = nI (opn P) := by
  induction P with
  | nil => exact absurd rfl H
  | cons o P ih =>
    have e : opn (o :: P) = if 40 ≤ o then o else opn P := rfl
    have ea : oaV (o :: P) = if 40 ≤ o then nI P.length else oaV P := rfl
    rw [e] at H ⊢
    rw [ea]
    by_cases c : 40 ≤ o
    · rw [if_pos c, if_pos c]
      exact ⟨P.length, rfl, Nat.lt_succ_self _, S.1⟩
    · rw [if_neg c] at H
      rw [if_neg c, if_neg c]
      obtain ⟨j, a, b, d⟩ := ih S.2.2 H
      exact ⟨j, a, Nat.lt_succ_of_lt b, d⟩
theorem opn_lt {P : List Nat} {F : Nat → Int32} (S : sPl P F) : opn P < 64 := by
  induction P with
  | nil => decide
  | cons o P ih =>
    show (if 40 ≤ o then o else opn P) < 64
    split
    · exact S.2.1
    · exact ih S.2.2
section RO
variable {L t : Nat} {lt rt rp : Option Nat} {sw : Bool} {gl : Nat → Nat → Int64} {h : Nat → Nat → Int32}
theorem l_openAt (P : List Nat) (hl : P.length ≤ 160) : sPl P (h 86) → avA 0 221 7 [.ref 81, .int (lv P)] [] (sX L t lt rt rp sw h gl) (some (.int (oaV P)), sX L t lt rt rp sw h gl) := by
  induction P with
  | nil =>
    intro _
    refine a_iload_1 rfl rfl ?_
    refine a_ifI_lt rfl rfl rfl rfl (fun _ => ?_) (fun c_8 => False.elim (c_8 (by decide)))
    refine a_iload_1 rfl rfl ?_
    exact a_iret rfl rfl
  | cons o P ih =>
    intro S
    have ln : (o :: P).length = P.length + 1 := rfl
    rw [ln] at hl
    have o64 := S.2.1
    by_cases c : 40 ≤ o
    · rw [show oaV (o :: P) = nI P.length from if_pos c]
      refine a_iload_1 rfl rfl ?_
      refine a_ifN_lt rfl rfl rfl (by omega) (fun c_8 => False.elim (c_8)) (fun _ => ?_)
      refine a_aload_0 rfl rfl ?_
      refine a_getr rfl rfl rfl (fun _ _ _ => rfl) rfl ?_
      refine a_iload_1 rfl rfl ?_
      refine a_iald rfl rfl (Or.inl rfl) rfl (by omega) (by decide) ?_
      refine a_as (y := nI (o)) S.1 ?_
      refine a_bipush (v := (nI 40)) rfl rfl rfl ?_
      refine a_cmpN_ge rfl rfl rfl (by omega) (by omega) (fun _ => ?_) (fun c_19 => False.elim (by omega))
      refine a_iload_1 rfl rfl ?_
      exact a_iret rfl rfl
    · rw [show oaV (o :: P) = oaV P from if_neg c]
      refine a_iload_1 rfl rfl ?_
      refine a_ifN_lt rfl rfl rfl (by omega) (fun c_8 => False.elim (c_8)) (fun _ => ?_)
      refine a_aload_0 rfl rfl ?_
      refine a_getr rfl rfl rfl (fun _ _ _ => rfl) rfl ?_
      refine a_iload_1 rfl rfl ?_
      refine a_iald rfl rfl (Or.inl rfl) rfl (by omega) (by decide) ?_
      refine a_as (y := nI (o)) S.1 ?_
      refine a_bipush (v := (nI 40)) rfl rfl rfl ?_
      refine a_cmpN_ge rfl rfl rfl (by omega) (by omega) (fun c_19 => False.elim (by omega)) (fun _ => ?_)
      refine a_iinc_1 rfl rfl (lv_dec P) rfl ?_
      refine a_goto rfl rfl ?_
      exact ih (by omega) S.2.2
theorem r_openAt {P : List Nat} (hl : P.length ≤ 160) (S : sPl P (h 86)) (H : h 81 16 = nI P.length) : avE 0 221 [.ref 81] (sX L t lt rt rp sw h gl) (some (.int (oaV P)), sX L t lt rt rp sw h gl) := by
  show avA _ 221 0 [.ref 81, mvU] [] _ _
  refine a_aload_0 rfl rfl ?_
  refine a_geti rfl rfl rfl (fun _ _ _ => rfl) ?_
  refine a_as (y := nI (P.length)) H ?_
  refine a_iconst (v := (nI 1)) rfl rfl rfl ?_
  refine a_isub rfl rfl ?_
  refine a_as (y := lv P) (lvl_sub P) ?_
  refine a_istore_1 rfl rfl rfl ?_
  exact l_openAt P hl S
theorem r_open0 {P : List Nat} (hl : P.length ≤ 160) (S : sPl P (h 86)) (H : h 81 16 = nI P.length) (h0 : opn P = 0) : avE 1 220 [.ref 81] (sX L t lt rt rp sw h gl) (some (.int (-1)), sX L t lt rt rp sw h gl) := by
  have C := r_openAt (L := L) (t := t) (lt := lt) (rt := rt) (rp := rp) (sw := sw) (gl := gl) hl S H
  rw [oaV_0 h0] at C
  show avA _ 220 0 [.ref 81] [] _ _
  refine a_aload_0 rfl rfl ?_
  refine a_virtI rfl rfl (C) (Nat.le_of_ble_eq_true rfl) ⟨rfl, rfl, rfl, rfl⟩ rfl rfl rfl (Nat.le_of_ble_eq_true rfl) rfl rfl ?_
  refine a_ifI_ge rfl rfl rfl rfl (fun c_4 => False.elim (absurd c_4 (by decide))) (fun _ => ?_)
  refine a_iconst (v := (-1)) rfl rfl rfl ?_
  refine a_goto rfl rfl ?_
  exact a_iret rfl rfl
theorem r_openN {P : List Nat} (hl : P.length ≤ 160) (S : sPl P (h 86)) (H : h 81 16 = nI P.length) (h0 : opn P ≠ 0) : avE 1 220 [.ref 81] (sX L t lt rt rp sw h gl) (some (.int (nI (opn P))), sX L t lt rt rp sw h gl) := by
  have C := r_openAt (L := L) (t := t) (lt := lt) (rt := rt) (rp := rp) (sw := sw) (gl := gl) hl S H
  obtain ⟨j, a, b, d⟩ := oaV_n S h0
  rw [a] at C
  show avA _ 220 0 [.ref 81] [] _ _
  refine a_aload_0 rfl rfl ?_
  refine a_virtI rfl rfl (C) (Nat.le_of_ble_eq_true rfl) ⟨rfl, rfl, rfl, rfl⟩ rfl rfl rfl (Nat.le_of_ble_eq_true rfl) rfl rfl ?_
  refine a_ifN_ge rfl rfl rfl (by omega) (fun _ => ?_) (fun c_4 => False.elim (c_4))
  refine a_aload_0 rfl rfl ?_
  refine a_getr rfl rfl rfl (fun _ _ _ => rfl) rfl ?_
  refine a_aload_0 rfl rfl ?_
  refine a_virtI rfl rfl (C) (Nat.le_of_ble_eq_true rfl) ⟨rfl, rfl, rfl, rfl⟩ rfl rfl rfl (Nat.le_of_ble_eq_true rfl) rfl rfl ?_
  refine a_iald rfl rfl (Or.inl rfl) rfl (by omega) (by decide) ?_
  refine a_as (y := nI (opn P)) d ?_
  exact a_iret rfl rfl
theorem l_isCmp (P : List Nat) (hl : P.length ≤ 160) : sPl P (h 86) → avA 1 222 7 [.ref 81, .int (lv P)] [] (sX L t lt rt rp sw h gl) (some (.int (bI (cmpd P = true))), sX L t lt rt rp sw h gl) := by
  induction P with
  | nil =>
    intro _
    refine a_iload_1 rfl rfl ?_
    refine a_ifI_lt rfl rfl rfl rfl (fun _ => ?_) (fun c_8 => False.elim (c_8 (by decide)))
    refine a_iload_1 rfl rfl ?_
    refine a_ifI_lt rfl rfl rfl rfl (fun _ => ?_) (fun c_31 => False.elim (c_31 (by decide)))
    refine a_iconst (v := (nI 0)) rfl rfl rfl ?_
    refine av_to (a_zret rfl rfl (Or.inl rfl)) (bz0 ?_)
    decide
  | cons o P ih =>
    intro S
    have ln : (o :: P).length = P.length + 1 := rfl
    rw [ln] at hl
    have o64 := S.2.1
    have r7 := rkN_7 o
    have e : cmpd (o :: P) = if 4 < rkN o then cmpd P else decide (rkN o = 4) := rfl
    by_cases c : 4 < rkN o
    · rw [e, if_pos c]
      refine a_iload_1 rfl rfl ?_
      refine a_ifN_lt rfl rfl rfl (by omega) (fun c_8 => False.elim (c_8)) (fun _ => ?_)
      refine a_aload_0 rfl rfl ?_
      refine a_getr rfl rfl rfl (fun _ _ _ => rfl) rfl ?_
      refine a_iload_1 rfl rfl ?_
      refine a_iald rfl rfl (Or.inl rfl) rfl (by omega) (by decide) ?_
      refine a_as (y := nI (o)) S.1 ?_
      refine a_statI rfl rfl (r_rank o (by omega)) (Nat.le_of_ble_eq_true rfl) ⟨rfl, rfl, rfl⟩ rfl rfl rfl (Nat.le_of_ble_eq_true rfl) rfl ?_
      refine a_iconst (v := (nI 4)) rfl rfl rfl ?_
      refine a_cmpN_le rfl rfl rfl (by omega) (by omega) (fun c_21 => False.elim (by omega)) (fun _ => ?_)
      refine a_iinc_1 rfl rfl (lv_dec P) rfl ?_
      refine a_goto rfl rfl ?_
      exact ih (by omega) S.2.2
    · rw [e, if_neg c]
      refine a_iload_1 rfl rfl ?_
      refine a_ifN_lt rfl rfl rfl (by omega) (fun c_8 => False.elim (c_8)) (fun _ => ?_)
      refine a_aload_0 rfl rfl ?_
      refine a_getr rfl rfl rfl (fun _ _ _ => rfl) rfl ?_
      refine a_iload_1 rfl rfl ?_
      refine a_iald rfl rfl (Or.inl rfl) rfl (by omega) (by decide) ?_
      refine a_as (y := nI (o)) S.1 ?_
      refine a_statI rfl rfl (r_rank o (by omega)) (Nat.le_of_ble_eq_true rfl) ⟨rfl, rfl, rfl⟩ rfl rfl rfl (Nat.le_of_ble_eq_true rfl) rfl ?_
      refine a_iconst (v := (nI 4)) rfl rfl rfl ?_
      refine a_cmpN_le rfl rfl rfl (by omega) (by omega) (fun _ => ?_) (fun c_21 => False.elim (by omega))
      refine a_iload_1 rfl rfl ?_
      refine a_ifN_lt rfl rfl rfl (by omega) (fun c_31 => False.elim (c_31)) (fun _ => ?_)
      refine a_aload_0 rfl rfl ?_
      refine a_getr rfl rfl rfl (fun _ _ _ => rfl) rfl ?_
      refine a_iload_1 rfl rfl ?_
      refine a_iald rfl rfl (Or.inl rfl) rfl (by omega) (by decide) ?_
      refine a_as (y := nI (o)) S.1 ?_
      refine a_statI rfl rfl (r_rank o (by omega)) (Nat.le_of_ble_eq_true rfl) ⟨rfl, rfl, rfl⟩ rfl rfl rfl (Nat.le_of_ble_eq_true rfl) rfl ?_
      refine a_iconst (v := (nI 4)) rfl rfl rfl ?_
      refine a_cmpN_ne rfl rfl rfl (by omega) (by omega) (fun c_44 => ?_) (fun c_44 => ?_)
      · refine a_iconst (v := (nI 0)) rfl rfl rfl ?_
        refine av_to (a_zret rfl rfl (Or.inl rfl)) (bz0 ?_)
        simp; omega
      · refine a_iconst (v := (nI 1)) rfl rfl rfl ?_
        refine a_goto rfl rfl ?_
        refine av_to (a_zret rfl rfl (Or.inr rfl)) (bz1 ?_)
        simp; omega
theorem r_isCmp {P : List Nat} (hl : P.length ≤ 160) (S : sPl P (h 86)) (H : h 81 16 = nI P.length) : avE 1 222 [.ref 81] (sX L t lt rt rp sw h gl) (some (.int (bI (cmpd P = true))), sX L t lt rt rp sw h gl) := by
  show avA _ 222 0 [.ref 81, mvU] [] _ _
  refine a_aload_0 rfl rfl ?_
  refine a_geti rfl rfl rfl (fun _ _ _ => rfl) ?_
  refine a_as (y := nI (P.length)) H ?_
  refine a_iconst (v := (nI 1)) rfl rfl rfl ?_
  refine a_isub rfl rfl ?_
  refine a_as (y := lv P) (lvl_sub P) ?_
  refine a_istore_1 rfl rfl rfl ?_
  exact l_isCmp P hl S
theorem r_isIn13 {σ : mvSt} (v : Nat) (hv : v < 100) : avE 0 185 [.int (nI v), .int (nI 1), .int (nI 3)] σ (some (.int (bI (1 ≤ v ∧ v ≤ 3))), σ) := by
  show avA _ 185 0 [.int (nI (v)), .int (nI 1), .int (nI 3)] [] _ _
  refine a_iload_0 rfl rfl ?_
  refine a_iload_1 rfl rfl ?_
  refine a_cmpN_lt rfl rfl rfl (by omega) (by omega) (fun c_2 => ?_) (fun c_2 => ?_)
  · refine a_iconst (v := (nI 0)) rfl rfl rfl ?_
    refine av_to (a_zret rfl rfl (Or.inl rfl)) (bz0 ?_)
    omega
  · refine a_iload_0 rfl rfl ?_
    refine a_iload_2 rfl rfl ?_
    refine a_cmpN_gt rfl rfl rfl (by omega) (by omega) (fun c_7 => ?_) (fun c_7 => ?_)
    · refine a_iconst (v := (nI 0)) rfl rfl rfl ?_
      refine av_to (a_zret rfl rfl (Or.inl rfl)) (bz0 ?_)
      omega
    · refine a_iconst (v := (nI 1)) rfl rfl rfl ?_
      refine a_goto rfl rfl ?_
      refine av_to (a_zret rfl rfl (Or.inr rfl)) (bz1 ?_)
      omega
theorem r_askA {P : List Nat} (hl : P.length ≤ 160) (S : sPl P (h 86)) (H : h 81 16 = nI P.length) : avE 2 233 [.ref 81] (sX L t lt rt rp sw h gl) (some (.int (bI (askA P = true))), sX L t lt rt rp sw h gl) := by
  have o64 := opn_lt S
  by_cases h0 : opn P = 0
  · have e : ¬ askA P = true := by
      match P, h0 with
      | [], _ => decide
      | o :: P, h0 => exact fun z => by have := (of_decide_eq_true z).1; omega
    show avA _ 233 0 [.ref 81] [] _ _
    refine a_aload_0 rfl rfl ?_
    refine a_virtI rfl rfl (r_open0 hl S H h0) (Nat.le_of_ble_eq_true rfl) ⟨rfl, rfl, rfl, rfl⟩ rfl rfl rfl (Nat.le_of_ble_eq_true rfl) rfl rfl ?_
    refine a_bipush (v := (nI 42)) rfl rfl rfl ?_
    refine a_cmp_ne rfl rfl rfl (fun _ => ?_) (fun c_6 => by first | exact absurd (by decide) c_6 | exact absurd c_6 (by decide))
    refine a_iconst (v := (nI 0)) rfl rfl rfl ?_
    refine av_to (a_zret rfl rfl (Or.inl rfl)) (bz0 ?_)
    exact e
  · match P, hl, S, H, h0, o64 with
    | [], _, _, _, h0, _ => exact absurd rfl h0
    | o :: P, hl, S, H, h0, o64 =>
      have r7 := rkN_7 o
      have ln : (o :: P).length = P.length + 1 := rfl
      have hl' := hl
      rw [ln] at hl'
      have H' : h 81 16 = nI (P.length + 1) := H
      have oo := S.2.1
      by_cases h42 : opn (o :: P) = 42
      · show avA _ 233 0 [.ref 81] [] _ _
        refine a_aload_0 rfl rfl ?_
        refine a_virtI rfl rfl (r_openN hl S H h0) (Nat.le_of_ble_eq_true rfl) ⟨rfl, rfl, rfl, rfl⟩ rfl rfl rfl (Nat.le_of_ble_eq_true rfl) rfl rfl ?_
        refine a_bipush (v := (nI 42)) rfl rfl rfl ?_
        refine a_cmpN_ne rfl rfl rfl (by omega) (by omega) (fun c_6 => False.elim (c_6 h42)) (fun _ => ?_)
        refine a_aload_0 rfl rfl ?_
        refine a_getr rfl rfl rfl (fun _ _ _ => rfl) rfl ?_
        refine a_aload_0 rfl rfl ?_
        refine a_geti rfl rfl rfl (fun _ _ _ => rfl) ?_
        refine a_as (y := nI (P.length + 1)) H' ?_
        refine a_iconst (v := (nI 1)) rfl rfl rfl ?_
        refine a_isubN rfl rfl (by omega) ?_
        refine a_as (y := nI (P.length)) (congrArg nI (by omega)) ?_
        refine a_iald rfl rfl (Or.inl rfl) rfl (by omega) (by decide) ?_
        refine a_as (y := nI (o)) S.1 ?_
        refine a_bipush (v := (nI 40)) rfl rfl rfl ?_
        refine a_cmpN_ge rfl rfl rfl (by omega) (by omega) (fun c_22 => ?_) (fun c_22 => ?_)
        · refine a_iconst (v := (nI 1)) rfl rfl rfl ?_
          refine a_goto rfl rfl ?_
          refine av_to (a_zret rfl rfl (Or.inr rfl)) (bz1 ?_)
          first | exact decide_eq_true ⟨h42, Or.inl (by omega)⟩ | exact decide_eq_true ⟨h42, Or.inr (by omega)⟩ | exact fun z => by have := (of_decide_eq_true z).2; omega
        · refine a_aload_0 rfl rfl ?_
          refine a_getr rfl rfl rfl (fun _ _ _ => rfl) rfl ?_
          refine a_aload_0 rfl rfl ?_
          refine a_geti rfl rfl rfl (fun _ _ _ => rfl) ?_
          refine a_as (y := nI (P.length + 1)) H' ?_
          refine a_iconst (v := (nI 1)) rfl rfl rfl ?_
          refine a_isubN rfl rfl (by omega) ?_
          refine a_as (y := nI (P.length)) (congrArg nI (by omega)) ?_
          refine a_iald rfl rfl (Or.inl rfl) rfl (by omega) (by decide) ?_
          refine a_as (y := nI (o)) S.1 ?_
          refine a_statI rfl rfl (r_rank o (by omega)) (Nat.le_of_ble_eq_true rfl) ⟨rfl, rfl, rfl⟩ rfl rfl rfl (Nat.le_of_ble_eq_true rfl) rfl ?_
          refine a_iconst (v := (nI 1)) rfl rfl rfl ?_
          refine a_iconst (v := (nI 3)) rfl rfl rfl ?_
          refine a_statI rfl rfl (r_isIn13 _ (by omega)) (Nat.le_of_ble_eq_true rfl) ⟨rfl, rfl, rfl⟩ rfl rfl rfl (Nat.le_of_ble_eq_true rfl) rfl ?_
          refine a_ifb_eq rfl rfl rfl (fun c_44 => ?_) (fun c_44 => ?_)
          · refine a_iconst (v := (nI 0)) rfl rfl rfl ?_
            refine av_to (a_zret rfl rfl (Or.inl rfl)) (bz0 ?_)
            first | exact decide_eq_true ⟨h42, Or.inl (by omega)⟩ | exact decide_eq_true ⟨h42, Or.inr (by omega)⟩ | exact fun z => by have := (of_decide_eq_true z).2; omega
          · refine a_iconst (v := (nI 1)) rfl rfl rfl ?_
            refine a_goto rfl rfl ?_
            refine av_to (a_zret rfl rfl (Or.inr rfl)) (bz1 ?_)
            first | exact decide_eq_true ⟨h42, Or.inl (by omega)⟩ | exact decide_eq_true ⟨h42, Or.inr (by omega)⟩ | exact fun z => by have := (of_decide_eq_true z).2; omega
      · show avA _ 233 0 [.ref 81] [] _ _
        refine a_aload_0 rfl rfl ?_
        refine a_virtI rfl rfl (r_openN hl S H h0) (Nat.le_of_ble_eq_true rfl) ⟨rfl, rfl, rfl, rfl⟩ rfl rfl rfl (Nat.le_of_ble_eq_true rfl) rfl rfl ?_
        refine a_bipush (v := (nI 42)) rfl rfl rfl ?_
        refine a_cmpN_ne rfl rfl rfl (by omega) (by omega) (fun _ => ?_) (fun c_6 => False.elim (h42 c_6))
        refine a_iconst (v := (nI 0)) rfl rfl rfl ?_
        refine av_to (a_zret rfl rfl (Or.inl rfl)) (bz0 ?_)
        exact fun z => h42 (of_decide_eq_true z).1
end RO
