/-! THE REFERENCE'S PARSER: words, names, code, piles -/
theorem TR_iff {c τ : Nat} (H : TR c τ) : (τ = 1 ↔ c = 45) ∧ (τ = 2 → c < 31 ∨ c = 47) ∧ (c < 31 → τ = 2) ∧ (τ = 40 ↔ c = 40) ∧ (τ = 45 ↔ c = 37) ∧ (τ = 43 ↔ c = 36) ∧ (τ = 42 ↔ c = 38) ∧ (τ = 47 ↔ c = 39) ∧ (τ = 41 ↔ c = 41) ∧ (τ = 59 ↔ c = 42) ∧ (τ = 0 ↔ c = 46) ∧ (τ = 60 ↔ c = 32) ∧ (τ = 4 ↔ c = 43) ∧ (τ = 62 ↔ c = 33) ∧ (τ = 5 ↔ c = 44) ∧ (τ = 61 ↔ c = 34) ∧ (τ = 35 ↔ c = 35) ∧ τ < 64 := by
  rcases H with ⟨rfl, h⟩ | ⟨rfl, h⟩ | ⟨rfl, h⟩ | ⟨rfl, h⟩ | ⟨rfl, h⟩ | ⟨rfl, h⟩ | ⟨rfl, h⟩ | ⟨rfl, h⟩ | ⟨rfl, h⟩ | ⟨rfl, h⟩ | ⟨rfl, h⟩ | ⟨rfl, h⟩ | ⟨rfl, h⟩ | ⟨rfl, h⟩ | ⟨rfl, h⟩ | ⟨rfl, h⟩ | ⟨rfl, h⟩ | ⟨rfl, h⟩
  all_goals refine ⟨?_, ?_, ?_, ?_, ?_, ?_, ?_, ?_, ?_, ?_, ?_, ?_, ?_, ?_, ?_, ?_, ?_, ?_⟩ <;> omega
/-- the token's kind and word -/
def tW (c : Nat) (h : Nat → Nat → Int32) (gl : Nat → Nat → Int64) (τ : Nat) : Prop := h 81 9 = nI τ ∧ τ < 64 ∧ TR c τ ∧ (τ = 2 → ∃ v : Nat, gl 81 11 = lN v ∧ v < 4611686018427387904 ∧ ∀ c', c' < 31 → (v = wW c' ↔ c = c'))
theorem rTk_W {b : Nat → Nat} {k p : Nat} {h : Nat → Nat → Int32} {gl : Nat → Nat → Int64} (H : rTk b k p h gl) : ∃ τ, tW (tk b k p).1 h gl τ := by
  obtain ⟨_, _, τ, a, b, _, d⟩ := H
  exact ⟨τ, a, (TR_iff b).2.2.2.2.2.2.2.2.2.2.2.2.2.2.2.2.2, b, d⟩
def nmV (c : Nat) : Int := if c < 11 then (c : Int) else -1
theorem nm_eq {c j : Nat} {σ : mvSt} (h : c = j) (hj : j < 11) : ((some (Value.int (nI j)), σ) : Option Value × mvSt) = (some (.int (iI (nmV c))), σ) := by
  subst h
  unfold nmV
  rw [if_pos hj, iI_nat]
theorem nm_no {c : Nat} {σ : mvSt} (h : ¬ c < 11) : ((some (Value.int (-1)), σ) : Option Value × mvSt) = (some (.int (iI (nmV c))), σ) := by
  unfold nmV
  rw [if_neg h]
  rfl
section RL
variable {L t : Nat} {lt rt rp : Option Nat} {sw : Bool} {gl : Nat → Nat → Int64} {h : Nat → Nat → Int32} {c τ : Nat}
theorem wW_lt : ∀ c, c < 31 → wW c < 4611686018427387904 := by decide +kernel
theorem r_isWord (H : tW c h gl τ) (c' : Nat) (hc : c' < 31) : avE 0 210 [.ref 81, .long (lN (wW c'))] (sX L t lt rt rp sw h gl) (some (.int (bI (c = c'))), sX L t lt rt rp sw h gl) := by
  obtain ⟨h1, h2, h3, h4⟩ := H
  have f := TR_iff h3
  by_cases q : τ = 2
  · obtain ⟨v, v1, v2, v3⟩ := h4 q
    have w := wW_lt c' hc
    have i := v3 c' hc
    show avA _ 210 0 [.ref 81, .long (lN (wW c')), mvU] [] _ _
    refine a_aload_0 rfl rfl ?_
    refine a_geti rfl rfl rfl (fun _ _ _ => rfl) ?_
    refine a_as (y := nI (τ)) h1 ?_
    refine a_iconst (v := (nI 2)) rfl rfl rfl ?_
    refine a_cmpN_ne rfl rfl rfl (by omega) (by omega) (fun c_5 => False.elim (by omega)) (fun _ => ?_)
    refine a_aload_0 rfl rfl ?_
    refine a_getl rfl rfl rfl (fun _ _ _ => rfl) ?_
    refine a_asL (y := lN (v)) v1 ?_
    refine a_lload_1 rfl rfl ?_
    refine a_lcmp rfl rfl ?_
    refine a_lc_ne rfl rfl rfl (pk_lT (by omega)) (pk_lT (by omega)) (fun c_14 => ?_) (fun c_14 => ?_)
    · refine a_iconst (v := (nI 0)) rfl rfl rfl ?_
      refine av_to (a_zret rfl rfl (Or.inl rfl)) (bz0 ?_)
      omega
    · refine a_iconst (v := (nI 1)) rfl rfl rfl ?_
      refine a_goto rfl rfl ?_
      refine av_to (a_zret rfl rfl (Or.inr rfl)) (bz1 ?_)
      omega
  · have g := f.2.2.1
    show avA _ 210 0 [.ref 81, .long (lN (wW c')), mvU] [] _ _
    refine a_aload_0 rfl rfl ?_
    refine a_geti rfl rfl rfl (fun _ _ _ => rfl) ?_
    refine a_as (y := nI (τ)) h1 ?_
    refine a_iconst (v := (nI 2)) rfl rfl rfl ?_
    refine a_cmpN_ne rfl rfl rfl (by omega) (by omega) (fun _ => ?_) (fun c_5 => False.elim (by omega))
    refine a_iconst (v := (nI 0)) rfl rfl rfl ?_
    refine av_to (a_zret rfl rfl (Or.inl rfl)) (bz0 ?_)
    omega
theorem r_nameOf (H : tW c h gl τ) : avE 5 230 [.ref 81] (sX L t lt rt rp sw h gl) (some (.int (iI (nmV c))), sX L t lt rt rp sw h gl) := by
  obtain ⟨h1, h2, h3, h4⟩ := H
  have f := (TR_iff h3).2.2.1
  by_cases q : τ = 2
  · obtain ⟨v, v1, v2, v3⟩ := h4 q
    show avA _ 230 0 [.ref 81] [] _ _
    refine a_aload_0 rfl rfl ?_
    refine a_geti rfl rfl rfl (fun _ _ _ => rfl) ?_
    refine a_as (y := nI (τ)) h1 ?_
    refine a_iconst (v := (nI 2)) rfl rfl rfl ?_
    refine a_cmpN_eq rfl rfl rfl (by omega) (by omega) (fun _ => ?_) (fun c_5 => False.elim (by omega))
    refine a_aload_0 rfl rfl ?_
    refine a_getl rfl rfl rfl (fun _ _ _ => rfl) ?_
    refine a_asL (y := lN (v)) v1 ?_
    refine a_bipush (v := (nI 104)) rfl rfl rfl ?_
    refine a_bipush (v := (nI 111)) rfl rfl rfl ?_
    refine a_bipush (v := (nI 117)) rfl rfl rfl ?_
    refine a_bipush (v := (nI 114)) rfl rfl rfl ?_
    refine a_statL rfl rfl (r_w4 104 111 117 114 (by decide) (by decide) (by decide) (by decide)) (Nat.le_of_ble_eq_true rfl) ⟨rfl, rfl, rfl⟩ rfl rfl rfl (Nat.le_of_ble_eq_true rfl) rfl ?_
    refine a_asL (y := lN (wW 0)) rfl ?_
    refine a_lcmp rfl rfl ?_
    refine a_lc_ne rfl rfl rfl (pk_lT (by omega)) (pk_lT (by have := wW_lt 0 (by decide); omega)) (fun c_26 => ?_) (fun c_26 => ?_)
    · refine a_aload_0 rfl rfl ?_
      refine a_getl rfl rfl rfl (fun _ _ _ => rfl) ?_
      refine a_asL (y := lN (v)) v1 ?_
      refine a_bipush (v := (nI 112)) rfl rfl rfl ?_
      refine a_bipush (v := (nI 104)) rfl rfl rfl ?_
      refine a_bipush (v := (nI 97)) rfl rfl rfl ?_
      refine a_bipush (v := (nI 115)) rfl rfl rfl ?_
      refine a_bipush (v := (nI 101)) rfl rfl rfl ?_
      refine a_statL rfl rfl (r_w5 112 104 97 115 101 (by decide) (by decide) (by decide) (by decide) (by decide)) (Nat.le_of_ble_eq_true rfl) ⟨rfl, rfl, rfl⟩ rfl rfl rfl (Nat.le_of_ble_eq_true rfl) rfl ?_
      refine a_asL (y := lN (wW 1)) rfl ?_
      refine a_lcmp rfl rfl ?_
      refine a_lc_ne rfl rfl rfl (pk_lT (by omega)) (pk_lT (by have := wW_lt 1 (by decide); omega)) (fun c_49 => ?_) (fun c_49 => ?_)
      · refine a_aload_0 rfl rfl ?_
        refine a_getl rfl rfl rfl (fun _ _ _ => rfl) ?_
        refine a_asL (y := lN (v)) v1 ?_
        refine a_bipush (v := (nI 115)) rfl rfl rfl ?_
        refine a_bipush (v := (nI 105)) rfl rfl rfl ?_
        refine a_bipush (v := (nI 122)) rfl rfl rfl ?_
        refine a_bipush (v := (nI 101)) rfl rfl rfl ?_
        refine a_statL rfl rfl (r_w4 115 105 122 101 (by decide) (by decide) (by decide) (by decide)) (Nat.le_of_ble_eq_true rfl) ⟨rfl, rfl, rfl⟩ rfl rfl rfl (Nat.le_of_ble_eq_true rfl) rfl ?_
        refine a_asL (y := lN (wW 2)) rfl ?_
        refine a_lcmp rfl rfl ?_
        refine a_lc_ne rfl rfl rfl (pk_lT (by omega)) (pk_lT (by have := wW_lt 2 (by decide); omega)) (fun c_70 => ?_) (fun c_70 => ?_)
        · refine a_aload_0 rfl rfl ?_
          refine a_getl rfl rfl rfl (fun _ _ _ => rfl) ?_
          refine a_asL (y := lN (v)) v1 ?_
          refine a_bipush (v := (nI 115)) rfl rfl rfl ?_
          refine a_bipush (v := (nI 116)) rfl rfl rfl ?_
          refine a_bipush (v := (nI 101)) rfl rfl rfl ?_
          refine a_bipush (v := (nI 112)) rfl rfl rfl ?_
          refine a_bipush (v := (nI 115)) rfl rfl rfl ?_
          refine a_statL rfl rfl (r_w5 115 116 101 112 115 (by decide) (by decide) (by decide) (by decide) (by decide)) (Nat.le_of_ble_eq_true rfl) ⟨rfl, rfl, rfl⟩ rfl rfl rfl (Nat.le_of_ble_eq_true rfl) rfl ?_
          refine a_asL (y := lN (wW 3)) rfl ?_
          refine a_lcmp rfl rfl ?_
          refine a_lc_ne rfl rfl rfl (pk_lT (by omega)) (pk_lT (by have := wW_lt 3 (by decide); omega)) (fun c_93 => ?_) (fun c_93 => ?_)
          · refine a_aload_0 rfl rfl ?_
            refine a_getl rfl rfl rfl (fun _ _ _ => rfl) ?_
            refine a_asL (y := lN (v)) v1 ?_
            refine a_bipush (v := (nI 107)) rfl rfl rfl ?_
            refine a_bipush (v := (nI 105)) rfl rfl rfl ?_
            refine a_bipush (v := (nI 110)) rfl rfl rfl ?_
            refine a_bipush (v := (nI 100)) rfl rfl rfl ?_
            refine a_statL rfl rfl (r_w4 107 105 110 100 (by decide) (by decide) (by decide) (by decide)) (Nat.le_of_ble_eq_true rfl) ⟨rfl, rfl, rfl⟩ rfl rfl rfl (Nat.le_of_ble_eq_true rfl) rfl ?_
            refine a_asL (y := lN (wW 4)) rfl ?_
            refine a_lcmp rfl rfl ?_
            refine a_lc_ne rfl rfl rfl (pk_lT (by omega)) (pk_lT (by have := wW_lt 4 (by decide); omega)) (fun c_114 => ?_) (fun c_114 => ?_)
            · refine a_aload_0 rfl rfl ?_
              refine a_getl rfl rfl rfl (fun _ _ _ => rfl) ?_
              refine a_asL (y := lN (v)) v1 ?_
              refine a_bipush (v := (nI 104)) rfl rfl rfl ?_
              refine a_bipush (v := (nI 101)) rfl rfl rfl ?_
              refine a_bipush (v := (nI 105)) rfl rfl rfl ?_
              refine a_bipush (v := (nI 103)) rfl rfl rfl ?_
              refine a_bipush (v := (nI 104)) rfl rfl rfl ?_
              refine a_bipush (v := (nI 116)) rfl rfl rfl ?_
              refine a_statL rfl rfl (r_w6 104 101 105 103 104 116 (by decide) (by decide) (by decide) (by decide) (by decide) (by decide)) (Nat.le_of_ble_eq_true rfl) ⟨rfl, rfl, rfl⟩ rfl rfl rfl (Nat.le_of_ble_eq_true rfl) rfl ?_
              refine a_asL (y := lN (wW 5)) rfl ?_
              refine a_lcmp rfl rfl ?_
              refine a_lc_ne rfl rfl rfl (pk_lT (by omega)) (pk_lT (by have := wW_lt 5 (by decide); omega)) (fun c_139 => ?_) (fun c_139 => ?_)
              · refine a_aload_0 rfl rfl ?_
                refine a_getl rfl rfl rfl (fun _ _ _ => rfl) ?_
                refine a_asL (y := lN (v)) v1 ?_
                refine a_bipush (v := (nI 97)) rfl rfl rfl ?_
                refine a_bipush (v := (nI 116)) rfl rfl rfl ?_
                refine a_statL rfl rfl (r_w2 97 116 (by decide) (by decide)) (Nat.le_of_ble_eq_true rfl) ⟨rfl, rfl, rfl⟩ rfl rfl rfl (Nat.le_of_ble_eq_true rfl) rfl ?_
                refine a_asL (y := lN (wW 6)) rfl ?_
                refine a_lcmp rfl rfl ?_
                refine a_lc_ne rfl rfl rfl (pk_lT (by omega)) (pk_lT (by have := wW_lt 6 (by decide); omega)) (fun c_156 => ?_) (fun c_156 => ?_)
                · refine a_aload_0 rfl rfl ?_
                  refine a_getl rfl rfl rfl (fun _ _ _ => rfl) ?_
                  refine a_asL (y := lN (v)) v1 ?_
                  refine a_bipush (v := (nI 115)) rfl rfl rfl ?_
                  refine a_bipush (v := (nI 105)) rfl rfl rfl ?_
                  refine a_bipush (v := (nI 108)) rfl rfl rfl ?_
                  refine a_bipush (v := (nI 118)) rfl rfl rfl ?_
                  refine a_bipush (v := (nI 101)) rfl rfl rfl ?_
                  refine a_bipush (v := (nI 114)) rfl rfl rfl ?_
                  refine a_statL rfl rfl (r_w6 115 105 108 118 101 114 (by decide) (by decide) (by decide) (by decide) (by decide) (by decide)) (Nat.le_of_ble_eq_true rfl) ⟨rfl, rfl, rfl⟩ rfl rfl rfl (Nat.le_of_ble_eq_true rfl) rfl ?_
                  refine a_asL (y := lN (wW 7)) rfl ?_
                  refine a_lcmp rfl rfl ?_
                  refine a_lc_ne rfl rfl rfl (pk_lT (by omega)) (pk_lT (by have := wW_lt 7 (by decide); omega)) (fun c_182 => ?_) (fun c_182 => ?_)
                  · refine a_aload_0 rfl rfl ?_
                    refine a_getl rfl rfl rfl (fun _ _ _ => rfl) ?_
                    refine a_asL (y := lN (v)) v1 ?_
                    refine a_bipush (v := (nI 98)) rfl rfl rfl ?_
                    refine a_bipush (v := (nI 101)) rfl rfl rfl ?_
                    refine a_bipush (v := (nI 100)) rfl rfl rfl ?_
                    refine a_statL rfl rfl (r_w3 98 101 100 (by decide) (by decide) (by decide)) (Nat.le_of_ble_eq_true rfl) ⟨rfl, rfl, rfl⟩ rfl rfl rfl (Nat.le_of_ble_eq_true rfl) rfl ?_
                    refine a_asL (y := lN (wW 8)) rfl ?_
                    refine a_lcmp rfl rfl ?_
                    refine a_lc_ne rfl rfl rfl (pk_lT (by omega)) (pk_lT (by have := wW_lt 8 (by decide); omega)) (fun c_202 => ?_) (fun c_202 => ?_)
                    · refine a_aload_0 rfl rfl ?_
                      refine a_getl rfl rfl rfl (fun _ _ _ => rfl) ?_
                      refine a_asL (y := lN (v)) v1 ?_
                      refine a_bipush (v := (nI 109)) rfl rfl rfl ?_
                      refine a_bipush (v := (nI 111)) rfl rfl rfl ?_
                      refine a_bipush (v := (nI 111)) rfl rfl rfl ?_
                      refine a_bipush (v := (nI 100)) rfl rfl rfl ?_
                      refine a_statL rfl rfl (r_w4 109 111 111 100 (by decide) (by decide) (by decide) (by decide)) (Nat.le_of_ble_eq_true rfl) ⟨rfl, rfl, rfl⟩ rfl rfl rfl (Nat.le_of_ble_eq_true rfl) rfl ?_
                      refine a_asL (y := lN (wW 9)) rfl ?_
                      refine a_lcmp rfl rfl ?_
                      refine a_lc_ne rfl rfl rfl (pk_lT (by omega)) (pk_lT (by have := wW_lt 9 (by decide); omega)) (fun c_224 => ?_) (fun c_224 => ?_)
                      · refine a_aload_0 rfl rfl ?_
                        refine a_getl rfl rfl rfl (fun _ _ _ => rfl) ?_
                        refine a_asL (y := lN (v)) v1 ?_
                        refine a_bipush (v := (nI 119)) rfl rfl rfl ?_
                        refine a_bipush (v := (nI 104)) rfl rfl rfl ?_
                        refine a_bipush (v := (nI 111)) rfl rfl rfl ?_
                        refine a_statL rfl rfl (r_w3 119 104 111 (by decide) (by decide) (by decide)) (Nat.le_of_ble_eq_true rfl) ⟨rfl, rfl, rfl⟩ rfl rfl rfl (Nat.le_of_ble_eq_true rfl) rfl ?_
                        refine a_asL (y := lN (wW 10)) rfl ?_
                        refine a_lcmp rfl rfl ?_
                        refine a_lc_ne rfl rfl rfl (pk_lT (by omega)) (pk_lT (by have := wW_lt 10 (by decide); omega)) (fun c_246 => ?_) (fun c_246 => ?_)
                        · refine a_iconst (v := (-1)) rfl rfl rfl ?_
                          refine av_to (a_iret rfl rfl) ?_
                          refine nm_no ?_
                          have n0 := (v3 0 (by decide)).mpr
                          have n1 := (v3 1 (by decide)).mpr
                          have n2 := (v3 2 (by decide)).mpr
                          have n3 := (v3 3 (by decide)).mpr
                          have n4 := (v3 4 (by decide)).mpr
                          have n5 := (v3 5 (by decide)).mpr
                          have n6 := (v3 6 (by decide)).mpr
                          have n7 := (v3 7 (by decide)).mpr
                          have n8 := (v3 8 (by decide)).mpr
                          have n9 := (v3 9 (by decide)).mpr
                          have n10 := (v3 10 (by decide)).mpr
                          omega
                        · refine a_bipush (v := (nI 10)) rfl rfl rfl ?_
                          refine a_goto rfl rfl ?_
                          refine av_to (a_iret rfl rfl) ?_
                          exact nm_eq ((v3 10 (by decide)).mp (by omega)) (by decide)
                      · refine a_bipush (v := (nI 9)) rfl rfl rfl ?_
                        refine a_goto rfl rfl ?_
                        refine av_to (a_iret rfl rfl) ?_
                        exact nm_eq ((v3 9 (by decide)).mp (by omega)) (by decide)
                    · refine a_bipush (v := (nI 8)) rfl rfl rfl ?_
                      refine av_to (a_iret rfl rfl) ?_
                      exact nm_eq ((v3 8 (by decide)).mp (by omega)) (by decide)
                  · refine a_bipush (v := (nI 7)) rfl rfl rfl ?_
                    refine av_to (a_iret rfl rfl) ?_
                    exact nm_eq ((v3 7 (by decide)).mp (by omega)) (by decide)
                · refine a_bipush (v := (nI 6)) rfl rfl rfl ?_
                  refine av_to (a_iret rfl rfl) ?_
                  exact nm_eq ((v3 6 (by decide)).mp (by omega)) (by decide)
              · refine a_iconst (v := (nI 5)) rfl rfl rfl ?_
                refine av_to (a_iret rfl rfl) ?_
                exact nm_eq ((v3 5 (by decide)).mp (by omega)) (by decide)
            · refine a_iconst (v := (nI 4)) rfl rfl rfl ?_
              refine av_to (a_iret rfl rfl) ?_
              exact nm_eq ((v3 4 (by decide)).mp (by omega)) (by decide)
          · refine a_iconst (v := (nI 3)) rfl rfl rfl ?_
            refine av_to (a_iret rfl rfl) ?_
            exact nm_eq ((v3 3 (by decide)).mp (by omega)) (by decide)
        · refine a_iconst (v := (nI 2)) rfl rfl rfl ?_
          refine av_to (a_iret rfl rfl) ?_
          exact nm_eq ((v3 2 (by decide)).mp (by omega)) (by decide)
      · refine a_iconst (v := (nI 1)) rfl rfl rfl ?_
        refine av_to (a_iret rfl rfl) ?_
        exact nm_eq ((v3 1 (by decide)).mp (by omega)) (by decide)
    · refine a_iconst (v := (nI 0)) rfl rfl rfl ?_
      refine av_to (a_iret rfl rfl) ?_
      exact nm_eq ((v3 0 (by decide)).mp (by omega)) (by decide)
  · show avA _ 230 0 [.ref 81] [] _ _
    refine a_aload_0 rfl rfl ?_
    refine a_geti rfl rfl rfl (fun _ _ _ => rfl) ?_
    refine a_as (y := nI (τ)) h1 ?_
    refine a_iconst (v := (nI 2)) rfl rfl rfl ?_
    refine a_cmpN_eq rfl rfl rfl (by omega) (by omega) (fun c_5 => False.elim (by omega)) (fun _ => ?_)
    refine a_iconst (v := (-1)) rfl rfl rfl ?_
    refine av_to (a_iret rfl rfl) ?_
    exact nm_no (by omega)
theorem r_isOf (law j : Nat) (hl : law < 3) (hj : j < 11) (H : h 81 14 = nI law) : avE 0 231 [.ref 81, .int (nI j)] (sX L t lt rt rp sw h gl) (some (.int (bI (nmOk law j = true))), sX L t lt rt rp sw h gl) := by
  show avA _ 231 0 [.ref 81, .int (nI (j))] [] _ _
  refine a_iload_1 rfl rfl ?_
  refine a_iconst (v := (nI 3)) rfl rfl rfl ?_
  refine a_cmpN_ge rfl rfl rfl (by omega) (by omega) (fun c_2 => ?_) (fun c_2 => ?_)
  · refine a_iload_1 rfl rfl ?_
    refine a_bipush (v := (nI 6)) rfl rfl rfl ?_
    refine a_cmpN_ge rfl rfl rfl (by omega) (by omega) (fun c_10 => ?_) (fun c_10 => ?_)
    · refine a_iload_1 rfl rfl ?_
      refine a_bipush (v := (nI 6)) rfl rfl rfl ?_
      refine a_cmpN_ne rfl rfl rfl (by omega) (by omega) (fun c_29 => ?_) (fun c_29 => ?_)
      · refine a_iload_1 rfl rfl ?_
        refine a_bipush (v := (nI 9)) rfl rfl rfl ?_
        refine a_cmpN_ge rfl rfl rfl (by omega) (by omega) (fun c_51 => ?_) (fun c_51 => ?_)
        · refine a_aload_0 rfl rfl ?_
          refine a_geti rfl rfl rfl (fun _ _ _ => rfl) ?_
          refine a_as (y := nI (law)) H ?_
          refine a_iconst (v := (nI 2)) rfl rfl rfl ?_
          refine a_cmpN_ne rfl rfl rfl (by omega) (by omega) (fun c_75 => ?_) (fun c_75 => ?_)
          · refine a_iconst (v := (nI 0)) rfl rfl rfl ?_
            refine av_to (a_zret rfl rfl (Or.inl rfl)) (bz0 ?_)
            unfold nmOk; simp only [decide_eq_true_eq]; omega
          · refine a_iconst (v := (nI 1)) rfl rfl rfl ?_
            refine a_goto rfl rfl ?_
            refine av_to (a_zret rfl rfl (Or.inr rfl)) (bz1 ?_)
            unfold nmOk; simp only [decide_eq_true_eq]; omega
        · refine a_aload_0 rfl rfl ?_
          refine a_geti rfl rfl rfl (fun _ _ _ => rfl) ?_
          refine a_as (y := nI (law)) H ?_
          refine a_iconst (v := (nI 1)) rfl rfl rfl ?_
          refine a_cmpN_ne rfl rfl rfl (by omega) (by omega) (fun c_59 => ?_) (fun c_59 => ?_)
          · refine a_iconst (v := (nI 0)) rfl rfl rfl ?_
            refine a_goto rfl rfl ?_
            refine av_to (a_zret rfl rfl (Or.inl rfl)) (bz0 ?_)
            unfold nmOk; simp only [decide_eq_true_eq]; omega
          · refine a_iconst (v := (nI 1)) rfl rfl rfl ?_
            refine a_goto rfl rfl ?_
            refine av_to (a_zret rfl rfl (Or.inr rfl)) (bz1 ?_)
            unfold nmOk; simp only [decide_eq_true_eq]; omega
      · refine a_aload_0 rfl rfl ?_
        refine a_geti rfl rfl rfl (fun _ _ _ => rfl) ?_
        refine a_as (y := nI (law)) H ?_
        refine a_iconst (v := (nI 1)) rfl rfl rfl ?_
        refine a_cmpN_eq rfl rfl rfl (by omega) (by omega) (fun c_37 => ?_) (fun c_37 => ?_)
        · refine a_iconst (v := (nI 0)) rfl rfl rfl ?_
          refine a_goto rfl rfl ?_
          refine av_to (a_zret rfl rfl (Or.inl rfl)) (bz0 ?_)
          unfold nmOk; simp only [decide_eq_true_eq]; omega
        · refine a_iconst (v := (nI 1)) rfl rfl rfl ?_
          refine a_goto rfl rfl ?_
          refine av_to (a_zret rfl rfl (Or.inr rfl)) (bz1 ?_)
          unfold nmOk; simp only [decide_eq_true_eq]; omega
    · refine a_aload_0 rfl rfl ?_
      refine a_geti rfl rfl rfl (fun _ _ _ => rfl) ?_
      refine a_as (y := nI (law)) H ?_
      refine a_ifN_ne rfl rfl rfl (by omega) (fun c_17 => ?_) (fun c_17 => ?_)
      · refine a_iconst (v := (nI 0)) rfl rfl rfl ?_
        refine av_to (a_zret rfl rfl (Or.inl rfl)) (bz0 ?_)
        unfold nmOk; simp only [decide_eq_true_eq]; omega
      · refine a_iconst (v := (nI 1)) rfl rfl rfl ?_
        refine a_goto rfl rfl ?_
        refine av_to (a_zret rfl rfl (Or.inr rfl)) (bz1 ?_)
        unfold nmOk; simp only [decide_eq_true_eq]; omega
  · refine a_iconst (v := (nI 1)) rfl rfl rfl ?_
    refine av_to (a_zret rfl rfl (Or.inr rfl)) (bz1 ?_)
    unfold nmOk; simp only [decide_eq_true_eq]; omega
def sPl : List Nat → (Nat → Int32) → Prop
  | [], _ => True
  | o :: P, F => F P.length = nI o ∧ o < 64 ∧ sPl P F
def cR (c0 : Nat) : CdL → (Nat → Int32) → Prop
  | [], _ => True
  | x :: w, T => T (c0 + 2 * w.length) = nI x.1 ∧ T (c0 + 2 * w.length + 1) = nI x.2 ∧ cR c0 w T
theorem sPl_up {P : List Nat} {F : Nat → Int32} {q : Nat} {v : Int32} (hk : P.length ≤ q) (H : sPl P F) : sPl P (va_up F q v) := by
  induction P with
  | nil => trivial
  | cons o P ih =>
    have hk' : P.length + 1 ≤ q := hk
    refine ⟨?_, H.2.1, ih (by omega) H.2.2⟩
    rw [va_up_ne _ _ (by omega)]
    exact H.1
theorem cR_ext {c0 : Nat} {w : CdL} {T T' : Nat → Int32} (H : cR c0 w T) (e : ∀ q, c0 ≤ q → q < c0 + 2 * w.length → T' q = T q) : cR c0 w T' := by
  induction w with
  | nil => trivial
  | cons x w ih =>
    have l : (x :: w).length = w.length + 1 := rfl
    rw [l] at e
    exact ⟨(e _ (by omega) (by omega)).trans H.1, (e _ (by omega) (by omega)).trans H.2.1, ih H.2.2 (fun q h1 h2 => e q h1 (by omega))⟩
/-- the pile and the code -/
def RQ (x law : Nat) (P : List Nat) (w : CdL) (h : Nat → Nat → Int32) : Prop := h 81 12 = nI (681 * x) ∧ x < 4 ∧ h 81 14 = nI law ∧ law < 3 ∧ h 81 13 = nI w.length ∧ h 81 16 = nI P.length ∧ h 81 17 = nI (opN P) ∧ sPl P (h 86) ∧ cR (681 * x + 73) w (h 84) ∧ P.length + w.length ≤ 300 ∧ P.length ≤ 156
/-- what reading a sum changes -/
def FQ (x : Nat) (h h' : Nat → Nat → Int32) : Prop := (∀ o, o ≠ 81 → o ≠ 84 → o ≠ 86 → h' o = h o) ∧ (∀ j, j < 7 ∨ j = 12 ∨ j = 14 ∨ 18 < j → h' 81 j = h 81 j) ∧ ∀ q, q < 681 * x + 73 ∨ 681 * x + 681 ≤ q → h' 84 q = h 84 q
theorem FQ_refl {x : Nat} {h : Nat → Nat → Int32} : FQ x h h := ⟨fun _ _ _ _ => rfl, fun _ _ => rfl, fun _ _ => rfl⟩
theorem FQ_trans {x : Nat} {h h' h'' : Nat → Nat → Int32} (H : FQ x h h') (G : FQ x h' h'') : FQ x h h'' := ⟨fun o a b c => (G.1 o a b c).trans (H.1 o a b c), fun j a => (G.2.1 j a).trans (H.2.1 j a), fun j a => (G.2.2 j a).trans (H.2.2 j a)⟩
theorem FQ_put {x o j : Nat} {h : Nat → Nat → Int32} {v : Int32} (ho : (o = 81 ∧ 7 ≤ j ∧ j ≠ 12 ∧ j ≠ 14 ∧ j ≤ 18) ∨ o = 86 ∨ (o = 84 ∧ 681 * x + 73 ≤ j ∧ j < 681 * x + 681)) : FQ x h (mvPut h o j v) := by
  refine ⟨fun p a b c => put_ne (by omega), fun q a => ?_, fun q a => ?_⟩
  · rw [put_at, if_neg (by omega)]
  · rw [put_at, if_neg (by omega)]
/-- the token's own fields stay -/
def kT (h h' : Nat → Nat → Int32) : Prop := ∀ j, j ≠ 13 → j ≠ 16 → j ≠ 17 → h' 81 j = h 81 j
abbrev emS (x : Nat) (w : CdL) (o v : Nat) (h : Nat → Nat → Int32) : Nat → Nat → Int32 := mvPut (mvPut (mvPut h 84 (681 * x + 73 + 2 * w.length) (nI o)) 84 (681 * x + 73 + 2 * w.length + 1) (nI v)) 81 13 (nI (w.length + 1))
theorem r_emit {x : Nat} {w : CdL} (o v : Nat) (h1 : h 81 12 = nI (681 * x)) (hx : x < 4) (h2 : h 81 13 = nI w.length) (hw : w.length ≤ 302) : avE 0 226 [.ref 81, .int (nI o), .int (nI v)] (sX L t lt rt rp sw h gl) (none, sX L t lt rt rp sw (emS x w o v h) gl) := by
  show avA _ 226 0 [.ref 81, .int (nI (o)), .int (nI (v))] [] _ _
  refine a_aload_0 rfl rfl ?_
  refine a_getr rfl rfl rfl (fun _ _ _ => rfl) rfl ?_
  refine a_aload_0 rfl rfl ?_
  refine a_geti rfl rfl rfl (fun _ _ _ => rfl) ?_
  refine a_as (y := nI (681 * x)) h1 ?_
  refine a_bipush (v := (nI 73)) rfl rfl rfl ?_
  refine a_iaddN rfl rfl ?_
  refine a_iconst (v := (nI 2)) rfl rfl rfl ?_
  refine a_aload_0 rfl rfl ?_
  refine a_geti rfl rfl rfl (fun _ _ _ => rfl) ?_
  refine a_as (y := nI (w.length)) h2 ?_
  refine a_imulN rfl rfl ?_
  refine a_iaddN rfl rfl ?_
  refine a_iload_1 rfl rfl ?_
  refine a_iast rfl rfl rfl rfl (by omega) (by decide) ?_
  refine a_aload_0 rfl rfl ?_
  refine a_getr rfl rfl rfl (fun _ _ _ => rfl) rfl ?_
  refine a_aload_0 rfl rfl ?_
  refine a_geti rfl rfl rfl (fun _ _ _ => rfl) ?_
  refine a_as (y := nI (681 * x)) ((put_o (by omega)).trans h1) ?_
  refine a_bipush (v := (nI 73)) rfl rfl rfl ?_
  refine a_iaddN rfl rfl ?_
  refine a_iconst (v := (nI 2)) rfl rfl rfl ?_
  refine a_aload_0 rfl rfl ?_
  refine a_geti rfl rfl rfl (fun _ _ _ => rfl) ?_
  refine a_as (y := nI (w.length)) ((put_o (by omega)).trans h2) ?_
  refine a_imulN rfl rfl ?_
  refine a_iaddN rfl rfl ?_
  refine a_iconst (v := (nI 1)) rfl rfl rfl ?_
  refine a_iaddN rfl rfl ?_
  refine a_iload_2 rfl rfl ?_
  refine a_iast rfl rfl rfl rfl (by omega) (by decide) ?_
  refine a_aload_0 rfl rfl ?_
  refine a_dup rfl rfl rfl ?_
  refine a_geti rfl rfl rfl (fun _ _ _ => rfl) ?_
  refine a_as (y := nI (w.length)) ((put_o (by omega)).trans ((put_o (by omega)).trans h2)) ?_
  refine a_iconst (v := (nI 1)) rfl rfl rfl ?_
  refine a_iaddN rfl rfl ?_
  refine a_puti rfl rfl rfl rfl ?_
  exact a_vret rfl rfl
theorem em_RQ {x law : Nat} {P : List Nat} {w : CdL} {o v : Nat} (H : RQ x law P w h) (hb : P.length + w.length + 1 ≤ 300) : RQ x law P ((o, v) :: w) (emS x w o v h) ∧ FQ x h (emS x w o v h) ∧ ∀ j, j ≠ 13 → (emS x w o v h) 81 j = h 81 j := by
  obtain ⟨a1, a2, a3, a4, a5, a6, a7, a8, a9, a10, a11⟩ := H
  have l : ((o, v) :: w).length = w.length + 1 := rfl
  have e : ∀ j, j ≠ 13 → (emS x w o v h) 81 j = h 81 j := fun j hj => (put_nj hj).trans ((put_o (by omega)).trans (put_o (by omega)))
  refine ⟨⟨(e 12 (by omega)).trans a1, a2, (e 14 (by omega)).trans a3, a4, put_eq, (e 16 (by omega)).trans a6, (e 17 (by omega)).trans a7, ?_, ⟨?_, ?_, ?_⟩, by omega, a11⟩, ?_, e⟩
  · have e86 : (emS x w o v h) 86 = h 86 := (put_ne (by omega)).trans ((put_ne (by omega)).trans (put_ne (by omega)))
    rw [e86]; exact a8
  · exact (put_o (by omega)).trans ((put_nj (by omega)).trans put_eq)
  · exact (put_o (by omega)).trans put_eq
  · exact cR_ext a9 (fun q h1 h2 => (put_o (by omega)).trans ((put_nj (by omega)).trans (put_nj (by omega))))
  · exact FQ_trans (FQ_trans (FQ_put (by omega)) (FQ_put (by omega))) (FQ_put (by omega))
theorem rkN_7 (o : Nat) : rkN o ≤ 7 := by
  unfold rkN
  repeat' split
  all_goals omega
/-- popping -/
theorem r_settle {x law l : Nat} (hl : 1 ≤ l) (hl7 : l ≤ 7) (P : List Nat) : ∀ (w : CdL) (h : Nat → Nat → Int32), RQ x law P w h → ∃ h', avE 1 225 [.ref 81, .int (nI l)] (sX L t lt rt rp sw h gl) (none, sX L t lt rt rp sw h' gl) ∧ RQ x law (stl l P w).1 (stl l P w).2 h' ∧ FQ x h h' ∧ kT h h' := by
  induction P with
  | nil =>
    intro w h H
    refine ⟨h, ?_, H, FQ_refl, fun _ _ _ _ => rfl⟩
    obtain ⟨a1, a2, a3, a4, a5, a6, a7, a8, a9, a10, a11⟩ := H
    show avA _ 225 0 [.ref 81, .int (nI (l))] [] _ _
    refine a_aload_0 rfl rfl ?_
    refine a_geti rfl rfl rfl (fun _ _ _ => rfl) ?_
    refine a_as (y := nI (0)) a6 ?_
    refine a_ifN_le rfl rfl rfl (by omega) (fun _ => ?_) (fun c_4 => False.elim (by omega))
    exact a_vret rfl rfl
  | cons o P ih =>
    intro w h H
    obtain ⟨a1, a2, a3, a4, a5, a6, a7, a8, a9, a10, a11⟩ := id H
    have ln : (o :: P).length = P.length + 1 := rfl
    rw [ln] at a6 a10 a11
    obtain ⟨p1, p2, p3⟩ := a8
    have r7 := rkN_7 o
    by_cases c : l ≤ rkN o
    · have es : stl l (o :: P) w = stl l P ((o, 0) :: w) := if_pos c
      rw [es]
      have o40 := rk_lt (o := o) (by omega)
      have oN : opN (o :: P) = opN P + (if isO o = true then 1 else 0) := rfl
      have H1 : RQ x law P w (mvPut (mvPut h 81 16 (nI P.length)) 81 17 (nI (opN P))) := by
        refine ⟨(put_nj (by omega)).trans ((put_nj (by omega)).trans a1), a2, (put_nj (by omega)).trans ((put_nj (by omega)).trans a3), a4, (put_nj (by omega)).trans ((put_nj (by omega)).trans a5), (put_nj (by omega)).trans put_eq, put_eq, ?_, ?_, by omega, by omega⟩
        · rw [show (mvPut (mvPut h 81 16 (nI P.length)) 81 17 (nI (opN P))) 86 = h 86 from (put_ne (by omega)).trans (put_ne (by omega))]; exact p3
        · rw [show (mvPut (mvPut h 81 16 (nI P.length)) 81 17 (nI (opN P))) 84 = h 84 from (put_ne (by omega)).trans (put_ne (by omega))]; exact a9
      obtain ⟨H2, F2, k2⟩ := em_RQ (o := o) (v := 0) H1 (by omega)
      obtain ⟨h', C, R, F, K⟩ := ih ((o, 0) :: w) _ H2
      have sw1 : emS x w o 0 (mvPut (mvPut h 81 16 (nI P.length)) 81 17 (nI (opN P))) = mvPut (emS x w o 0 (mvPut h 81 16 (nI P.length))) 81 17 (nI (opN P)) := by
        funext p q
        simp only [put_at]
        repeat' split
        all_goals first | rfl | (exfalso; omega)
      have F1 : FQ x h (mvPut (mvPut h 81 16 (nI P.length)) 81 17 (nI (opN P))) := FQ_trans (FQ_put (by omega)) (FQ_put (by omega))
      have e86 : ∀ q, (emS x w o 0 (mvPut h 81 16 (nI P.length))) 86 q = h 86 q := fun q => (put_o (by omega)).trans ((put_o (by omega)).trans ((put_o (by omega)).trans (put_o (by omega))))
      have e81 : ∀ q, q ≠ 13 → q ≠ 16 → (emS x w o 0 (mvPut h 81 16 (nI P.length))) 81 q = h 81 q := fun q g1 g2 => (put_nj g1).trans ((put_o (by omega)).trans ((put_o (by omega)).trans (put_nj g2)))
      have e16 : (emS x w o 0 (mvPut h 81 16 (nI P.length))) 81 16 = nI P.length := (put_nj (by omega)).trans ((put_o (by omega)).trans ((put_o (by omega)).trans put_eq))
      refine ⟨h', ?_, R, FQ_trans F1 (FQ_trans F2 F), fun j g1 g2 g3 => (K j g1 g2 g3).trans ((k2 j g1).trans ((put_nj g3).trans (put_nj g2)))⟩
      by_cases ci : isO o = true
      · rw [if_pos ci] at oN
        rw [sw1] at C
        have ci' := of_decide_eq_true ci
        show avA _ 225 0 [.ref 81, .int (nI (l))] [] _ _
        refine a_aload_0 rfl rfl ?_
        refine a_geti rfl rfl rfl (fun _ _ _ => rfl) ?_
        refine a_as (y := nI (P.length + 1)) a6 ?_
        refine a_ifN_le rfl rfl rfl (by omega) (fun c_4 => False.elim (by omega)) (fun _ => ?_)
        refine a_aload_0 rfl rfl ?_
        refine a_getr rfl rfl rfl (fun _ _ _ => rfl) rfl ?_
        refine a_aload_0 rfl rfl ?_
        refine a_geti rfl rfl rfl (fun _ _ _ => rfl) ?_
        refine a_as (y := nI (P.length + 1)) a6 ?_
        refine a_iconst (v := (nI 1)) rfl rfl rfl ?_
        refine a_isubN rfl rfl (by omega) ?_
        refine a_as (y := nI (P.length)) (congrArg nI (by omega)) ?_
        refine a_iald rfl rfl (Or.inl rfl) rfl (by omega) (by decide) ?_
        refine a_as (y := nI (o)) p1 ?_
        refine a_statI rfl rfl (r_rank o (by omega)) (Nat.le_of_ble_eq_true rfl) ⟨rfl, rfl, rfl⟩ rfl rfl rfl (Nat.le_of_ble_eq_true rfl) rfl ?_
        refine a_iload_1 rfl rfl ?_
        refine a_cmpN_lt rfl rfl rfl (by omega) (by omega) (fun c_22 => False.elim (by omega)) (fun _ => ?_)
        refine a_aload_0 rfl rfl ?_
        refine a_dup rfl rfl rfl ?_
        refine a_geti rfl rfl rfl (fun _ _ _ => rfl) ?_
        refine a_as (y := nI (P.length + 1)) a6 ?_
        refine a_iconst (v := (nI 1)) rfl rfl rfl ?_
        refine a_isubN rfl rfl (by omega) ?_
        refine a_as (y := nI (P.length)) (congrArg nI (by omega)) ?_
        refine a_puti rfl rfl rfl rfl ?_
        refine a_aload_0 rfl rfl ?_
        refine a_aload_0 rfl rfl ?_
        refine a_getr rfl rfl rfl (fun _ _ _ => rfl) rfl ?_
        refine a_aload_0 rfl rfl ?_
        refine a_geti rfl rfl rfl (fun _ _ _ => rfl) ?_
        refine a_as (y := nI (P.length)) put_eq ?_
        refine a_iald rfl rfl (Or.inl rfl) rfl (by omega) (by decide) ?_
        refine a_as (y := nI (o)) ((put_o (by omega)).trans p1) ?_
        refine a_iconst (v := (nI 0)) rfl rfl rfl ?_
        refine a_virt0 rfl rfl (r_emit o 0 ((put_nj (by omega)).trans a1) a2 ((put_nj (by omega)).trans a5) (by omega)) (Nat.le_of_ble_eq_true rfl) ⟨rfl, rfl, rfl, rfl⟩ rfl rfl rfl (Nat.le_of_ble_eq_true rfl) rfl rfl ?_
        refine a_aload_0 rfl rfl ?_
        refine a_getr rfl rfl rfl (fun _ _ _ => rfl) rfl ?_
        refine a_aload_0 rfl rfl ?_
        refine a_geti rfl rfl rfl (fun _ _ _ => rfl) ?_
        refine a_as (y := nI (P.length)) e16 ?_
        refine a_iald rfl rfl (Or.inl rfl) rfl (by omega) (by decide) ?_
        refine a_as (y := nI (o)) ((e86 _).trans p1) ?_
        refine a_statI rfl rfl (r_rank o (by omega)) (Nat.le_of_ble_eq_true rfl) ⟨rfl, rfl, rfl⟩ rfl rfl rfl (Nat.le_of_ble_eq_true rfl) rfl ?_
        refine a_bipush (v := (nI 7)) rfl rfl rfl ?_
        refine a_cmpN_eq rfl rfl rfl (by omega) (by omega) (fun c_63 => ?_) (fun c_63 => ?_)
        · refine a_aload_0 rfl rfl ?_
          refine a_dup rfl rfl rfl ?_
          refine a_geti rfl rfl rfl (fun _ _ _ => rfl) ?_
          refine a_as (y := nI (opN P + 1)) ((e81 17 (by omega) (by omega)).trans (a7.trans (congrArg nI oN))) ?_
          refine a_iconst (v := (nI 1)) rfl rfl rfl ?_
          refine a_isubN rfl rfl (by omega) ?_
          refine a_as (y := nI (opN P)) (congrArg nI (by omega)) ?_
          refine a_puti rfl rfl rfl rfl ?_
          refine a_goto rfl rfl ?_
          exact C
        · refine a_aload_0 rfl rfl ?_
          refine a_getr rfl rfl rfl (fun _ _ _ => rfl) rfl ?_
          refine a_aload_0 rfl rfl ?_
          refine a_geti rfl rfl rfl (fun _ _ _ => rfl) ?_
          refine a_as (y := nI (P.length)) e16 ?_
          refine a_iald rfl rfl (Or.inl rfl) rfl (by omega) (by decide) ?_
          refine a_as (y := nI (o)) ((e86 _).trans p1) ?_
          refine a_bipush (v := (nI 20)) rfl rfl rfl ?_
          refine a_cmpN_ne rfl rfl rfl (by omega) (by omega) (fun c_77 => False.elim (by have z : rkN o = 7 ∨ o = 20 := (by rcases ci' with q | q | q | q | q <;> first | (exfalso; omega) | (subst q; first | exact Or.inl rfl | exact Or.inr rfl)); omega)) (fun _ => ?_)
          refine a_aload_0 rfl rfl ?_
          refine a_dup rfl rfl rfl ?_
          refine a_geti rfl rfl rfl (fun _ _ _ => rfl) ?_
          refine a_as (y := nI (opN P + 1)) ((e81 17 (by omega) (by omega)).trans (a7.trans (congrArg nI oN))) ?_
          refine a_iconst (v := (nI 1)) rfl rfl rfl ?_
          refine a_isubN rfl rfl (by omega) ?_
          refine a_as (y := nI (opN P)) (congrArg nI (by omega)) ?_
          refine a_puti rfl rfl rfl rfl ?_
          refine a_goto rfl rfl ?_
          exact C
      · have ci' : ¬ (40 ≤ o ∨ o = 5 ∨ o = 2 ∨ o = 4 ∨ o = 20) := fun z => ci (decide_eq_true z)
        rw [if_neg ci] at oN
        have sw2 : emS x w o 0 (mvPut (mvPut h 81 16 (nI P.length)) 81 17 (nI (opN P))) = emS x w o 0 (mvPut h 81 16 (nI P.length)) := by
          rw [show mvPut (mvPut h 81 16 (nI P.length)) 81 17 (nI (opN P)) = mvPut h 81 16 (nI P.length) from ?_]
          funext p q
          rw [put_at]
          split
          · rename_i z
            rw [z.1, z.2]
            exact ((put_nj (by omega)).trans (a7.trans (congrArg nI oN))).symm
          · rfl
        rw [sw2] at C
        have z7 : rkN o ≠ 7 := by
          unfold rkN
          repeat' split
          all_goals omega
        show avA _ 225 0 [.ref 81, .int (nI (l))] [] _ _
        refine a_aload_0 rfl rfl ?_
        refine a_geti rfl rfl rfl (fun _ _ _ => rfl) ?_
        refine a_as (y := nI (P.length + 1)) a6 ?_
        refine a_ifN_le rfl rfl rfl (by omega) (fun c_4 => False.elim (by omega)) (fun _ => ?_)
        refine a_aload_0 rfl rfl ?_
        refine a_getr rfl rfl rfl (fun _ _ _ => rfl) rfl ?_
        refine a_aload_0 rfl rfl ?_
        refine a_geti rfl rfl rfl (fun _ _ _ => rfl) ?_
        refine a_as (y := nI (P.length + 1)) a6 ?_
        refine a_iconst (v := (nI 1)) rfl rfl rfl ?_
        refine a_isubN rfl rfl (by omega) ?_
        refine a_as (y := nI (P.length)) (congrArg nI (by omega)) ?_
        refine a_iald rfl rfl (Or.inl rfl) rfl (by omega) (by decide) ?_
        refine a_as (y := nI (o)) p1 ?_
        refine a_statI rfl rfl (r_rank o (by omega)) (Nat.le_of_ble_eq_true rfl) ⟨rfl, rfl, rfl⟩ rfl rfl rfl (Nat.le_of_ble_eq_true rfl) rfl ?_
        refine a_iload_1 rfl rfl ?_
        refine a_cmpN_lt rfl rfl rfl (by omega) (by omega) (fun c_22 => False.elim (by omega)) (fun _ => ?_)
        refine a_aload_0 rfl rfl ?_
        refine a_dup rfl rfl rfl ?_
        refine a_geti rfl rfl rfl (fun _ _ _ => rfl) ?_
        refine a_as (y := nI (P.length + 1)) a6 ?_
        refine a_iconst (v := (nI 1)) rfl rfl rfl ?_
        refine a_isubN rfl rfl (by omega) ?_
        refine a_as (y := nI (P.length)) (congrArg nI (by omega)) ?_
        refine a_puti rfl rfl rfl rfl ?_
        refine a_aload_0 rfl rfl ?_
        refine a_aload_0 rfl rfl ?_
        refine a_getr rfl rfl rfl (fun _ _ _ => rfl) rfl ?_
        refine a_aload_0 rfl rfl ?_
        refine a_geti rfl rfl rfl (fun _ _ _ => rfl) ?_
        refine a_as (y := nI (P.length)) put_eq ?_
        refine a_iald rfl rfl (Or.inl rfl) rfl (by omega) (by decide) ?_
        refine a_as (y := nI (o)) ((put_o (by omega)).trans p1) ?_
        refine a_iconst (v := (nI 0)) rfl rfl rfl ?_
        refine a_virt0 rfl rfl (r_emit o 0 ((put_nj (by omega)).trans a1) a2 ((put_nj (by omega)).trans a5) (by omega)) (Nat.le_of_ble_eq_true rfl) ⟨rfl, rfl, rfl, rfl⟩ rfl rfl rfl (Nat.le_of_ble_eq_true rfl) rfl rfl ?_
        refine a_aload_0 rfl rfl ?_
        refine a_getr rfl rfl rfl (fun _ _ _ => rfl) rfl ?_
        refine a_aload_0 rfl rfl ?_
        refine a_geti rfl rfl rfl (fun _ _ _ => rfl) ?_
        refine a_as (y := nI (P.length)) e16 ?_
        refine a_iald rfl rfl (Or.inl rfl) rfl (by omega) (by decide) ?_
        refine a_as (y := nI (o)) ((e86 _).trans p1) ?_
        refine a_statI rfl rfl (r_rank o (by omega)) (Nat.le_of_ble_eq_true rfl) ⟨rfl, rfl, rfl⟩ rfl rfl rfl (Nat.le_of_ble_eq_true rfl) rfl ?_
        refine a_bipush (v := (nI 7)) rfl rfl rfl ?_
        refine a_cmpN_eq rfl rfl rfl (by omega) (by omega) (fun c_63 => False.elim (z7 c_63)) (fun _ => ?_)
        refine a_aload_0 rfl rfl ?_
        refine a_getr rfl rfl rfl (fun _ _ _ => rfl) rfl ?_
        refine a_aload_0 rfl rfl ?_
        refine a_geti rfl rfl rfl (fun _ _ _ => rfl) ?_
        refine a_as (y := nI (P.length)) e16 ?_
        refine a_iald rfl rfl (Or.inl rfl) rfl (by omega) (by decide) ?_
        refine a_as (y := nI (o)) ((e86 _).trans p1) ?_
        refine a_bipush (v := (nI 20)) rfl rfl rfl ?_
        refine a_cmpN_ne rfl rfl rfl (by omega) (by omega) (fun _ => ?_) (fun c_77 => False.elim (by omega))
        exact C
    · have es : stl l (o :: P) w = (o :: P, w) := if_neg c
      rw [es]
      refine ⟨h, ?_, H, FQ_refl, fun _ _ _ _ => rfl⟩
      show avA _ 225 0 [.ref 81, .int (nI (l))] [] _ _
      refine a_aload_0 rfl rfl ?_
      refine a_geti rfl rfl rfl (fun _ _ _ => rfl) ?_
      refine a_as (y := nI (P.length + 1)) a6 ?_
      refine a_ifN_le rfl rfl rfl (by omega) (fun c_4 => False.elim (by omega)) (fun _ => ?_)
      refine a_aload_0 rfl rfl ?_
      refine a_getr rfl rfl rfl (fun _ _ _ => rfl) rfl ?_
      refine a_aload_0 rfl rfl ?_
      refine a_geti rfl rfl rfl (fun _ _ _ => rfl) ?_
      refine a_as (y := nI (P.length + 1)) a6 ?_
      refine a_iconst (v := (nI 1)) rfl rfl rfl ?_
      refine a_isubN rfl rfl (by omega) ?_
      refine a_as (y := nI (P.length)) (congrArg nI (by omega)) ?_
      refine a_iald rfl rfl (Or.inl rfl) rfl (by omega) (by decide) ?_
      refine a_as (y := nI (o)) p1 ?_
      refine a_statI rfl rfl (r_rank o (by omega)) (Nat.le_of_ble_eq_true rfl) ⟨rfl, rfl, rfl⟩ rfl rfl rfl (Nat.le_of_ble_eq_true rfl) rfl ?_
      refine a_iload_1 rfl rfl ?_
      refine a_cmpN_lt rfl rfl rfl (by omega) (by omega) (fun _ => ?_) (fun c_22 => False.elim (by omega))
      exact a_vret rfl rfl
end RL
