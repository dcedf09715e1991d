/-! THE NEXT TOKEN: the whole -/
theorem sg_cs (c : Nat) : sgC c = 47 ∨ (c = 60 ∧ sgC c = 32) ∨ (c = 62 ∧ sgC c = 33) ∨ (c = 61 ∧ sgC c = 34) ∨ (c = 35 ∧ sgC c = 35) ∨ (c = 43 ∧ sgC c = 36) ∨ (c = 45 ∧ sgC c = 37) ∨ (c = 42 ∧ sgC c = 38) ∨ (c = 47 ∧ sgC c = 39) ∨ (c = 40 ∧ sgC c = 40) ∨ (c = 41 ∧ sgC c = 41) ∨ (c = 59 ∧ sgC c = 42) := by
  by_cases e60 : c = 60
  · subst e60; simp [sgC]
  by_cases e62 : c = 62
  · subst e62; simp [sgC]
  by_cases e61 : c = 61
  · subst e61; simp [sgC]
  by_cases e35 : c = 35
  · subst e35; simp [sgC]
  by_cases e43 : c = 43
  · subst e43; simp [sgC]
  by_cases e45 : c = 45
  · subst e45; simp [sgC]
  by_cases e42 : c = 42
  · subst e42; simp [sgC]
  by_cases e47 : c = 47
  · subst e47; simp [sgC]
  by_cases e40 : c = 40
  · subst e40; simp [sgC]
  by_cases e41 : c = 41
  · subst e41; simp [sgC]
  by_cases e59 : c = 59
  · subst e59; simp [sgC]
  · left
    simp [sgC, e60, e62, e61, e35, e43, e45, e42, e47, e40, e41, e59]
theorem TR_sg (c τ : Nat) (e : τ = if sgC c ≠ 47 ∨ c = 58 then c else 3) : TR (sgC c) τ := by
  unfold TR
  rcases sg_cs c with q | ⟨rfl, q⟩ | ⟨rfl, q⟩ | ⟨rfl, q⟩ | ⟨rfl, q⟩ | ⟨rfl, q⟩ | ⟨rfl, q⟩ | ⟨rfl, q⟩ | ⟨rfl, q⟩ | ⟨rfl, q⟩ | ⟨rfl, q⟩ | ⟨rfl, q⟩
  · rw [q] at e ⊢
    by_cases d : c = 58
    · subst d; simp at e; simp [e]
    · simp [d] at e; simp [e]
  · simp [sgC] at e; subst e; simp [sgC]
  · simp [sgC] at e; subst e; simp [sgC]
  · simp [sgC] at e; subst e; simp [sgC]
  · simp [sgC] at e; subst e; simp [sgC]
  · simp [sgC] at e; subst e; simp [sgC]
  · simp [sgC] at e; subst e; simp [sgC]
  · simp [sgC] at e; subst e; simp [sgC]
  · simp [sgC] at e; subst e; simp [sgC]
  · simp [sgC] at e; subst e; simp [sgC]
  · simp [sgC] at e; subst e; simp [sgC]
  · simp [sgC] at e; subst e; simp [sgC]
section NZ
variable {L t : Nat} {lt rt rp : Option Nat} {sw : Bool} {b : Nat → Nat} {k : Nat}
theorem r_next {h : Nat → Nat → Int32} {gl : Nat → Nat → Int64} (H : RP b k h) {p0 : Nat} (hp0 : p0 ≤ k) (h7 : h 81 7 = nI p0) : ∃ h' gl', avE 1 198 [.ref 81] (sX L t lt rt rp sw h gl) (none, sX L t lt rt rp sw h' gl') ∧ F81 h h' ∧ rTk b k (rn isB b k p0) h' gl' := by
  have hk := H.2.1
  obtain ⟨h1, f1, e7, Q⟩ := l_skip2 (L := L) (t := t) (lt := lt) (rt := rt) (rp := rp) (sw := sw) (gl := gl) (b := b) (k := k) k p0 h (by omega) hp0 H h7
  have H1 := RP_f H f1
  have hp := rn_le (q := isB) (b := b) (k := k) hp0
  have st := rn_st isB b k p0
  generalize rn isB b k p0 = p at *
  have f2 : F81 h (mvPut h1 81 8 (nI p)) := F81_t f1 (F81_p (by omega))
  have H2 := RP_f H f2
  have x7 : mvPut h1 81 8 (nI p) 81 7 = nI p := by rw [put_at]; simp; exact e7
  by_cases c0 : p < k
  · obtain ⟨e1, l1⟩ := H.2.2 p c0
    have cB : ¬ isB (b p) = true := fun x => st ⟨c0, x⟩
    by_cases cD : isD (b p) = true
    · have dd := of_decide_eq_true cD
      have cL : ¬ isL (b p) = true := fun x => by have := of_decide_eq_true x; omega
      have et : tk b k p = (45, nv b k p 0, rn isD b k p) := by unfold tk; rw [if_neg (by omega), if_neg cL, if_pos cD]
      have f3 : F81 h (mvPut (mvPut (mvPut h1 81 8 (nI p)) 81 9 (nI 1)) 81 10 (nI 0)) := F81_t (F81_t f2 (F81_p (by omega))) (F81_p (by omega))
      obtain ⟨h', a1, a2, a3, a4, a5, Z⟩ := l_figs (L := L) (t := t) (lt := lt) (rt := rt) (rp := rp) (sw := sw) (gl := gl) (b := b) (k := k) (.int (nI (b p))) k p 0 0 (mvPut (mvPut (mvPut h1 81 8 (nI p)) 81 9 (nI 1)) 81 10 (nI 0)) (by omega) hp (RP_f H f3) (by rw [put_at, put_at]; simp; exact x7) (by rw [put_at]; simp) (by omega) (by omega) (by omega) (by omega)
      refine ⟨h', gl, ?_, F81_t f3 a1, ?_⟩
      · have Z9 : avA 1 198 39 [.ref 81, mvU] [] (sX L t lt rt rp sw h1 gl) (none, sX L t lt rt rp sw h' gl) := by
          refine a_aload_0 rfl rfl ?_
          refine a_aload_0 rfl rfl ?_
          refine a_geti rfl rfl rfl (fun _ _ _ => rfl) ?_
          refine a_as (y := nI (p)) e7 ?_
          refine a_puti rfl rfl rfl rfl ?_
          refine a_aload_0 rfl rfl ?_
          refine a_aload_0 rfl rfl ?_
          refine a_geti rfl rfl rfl (fun _ _ _ => rfl) ?_
          refine a_as (y := nI (p)) x7 ?_
          refine a_virtI rfl rfl (r_byT H2 c0) (Nat.le_of_ble_eq_true rfl) ⟨rfl, rfl, rfl, rfl⟩ rfl rfl rfl (Nat.le_of_ble_eq_true rfl) rfl rfl ?_
          refine a_istore_1 rfl rfl rfl ?_
          refine a_iload_1 rfl rfl ?_
          refine a_ifN_ge rfl rfl rfl (by omega) (fun _ => ?_) (fun c_57 => False.elim (by omega))
          refine a_iload_1 rfl rfl ?_
          refine a_statI rfl rfl (r_isFig (b p) l1) (Nat.le_of_ble_eq_true rfl) ⟨rfl, rfl, rfl⟩ rfl rfl rfl (Nat.le_of_ble_eq_true rfl) rfl ?_
          refine a_ifb_eq rfl rfl rfl (fun c_72 => by first | exact absurd c_72 (not_not_intro cD) | exact absurd (not_not_intro cD) c_72) (fun _ => ?_)
          refine a_aload_0 rfl rfl ?_
          refine a_iconst (v := (nI 1)) rfl rfl rfl ?_
          refine a_puti rfl rfl rfl rfl ?_
          refine a_aload_0 rfl rfl ?_
          refine a_iconst (v := (nI 0)) rfl rfl rfl ?_
          refine a_puti rfl rfl rfl rfl ?_
          exact Z
        exact Q _ Z9
      · refine ⟨by rw [et]; exact a2, by rw [a3, put_at, put_at, put_at]; simp, 1, by rw [a4, put_at, put_at]; simp, ?_, fun _ => ?_, fun x => by omega⟩
        · rw [et]; exact Or.inr (Or.inl ⟨rfl, rfl⟩)
        · rw [et]; exact a5
    · by_cases cL : isL (b p) = true
      · have et : tk b k p = (wc b p (rn isL b k p), 0, rn isL b k p) := by unfold tk; rw [if_neg (by omega), if_pos cL]
        have f3 : F81 h (mvPut (mvPut h1 81 8 (nI p)) 81 9 (nI 2)) := F81_t f2 (F81_p (by omega))
        obtain ⟨h', gl', a1, a2, a3, a4, a5, Z⟩ := l_lets (L := L) (t := t) (lt := lt) (rt := rt) (rp := rp) (sw := sw) (b := b) (k := k) p (.int (nI (b p))) k p (mvPut (mvPut h1 81 8 (nI p)) 81 9 (nI 2)) (mvPut gl 81 11 (lN 0)) (by omega) hp (Nat.le_refl _) (RP_f H f3) (by rw [put_at]; simp; exact x7) (by rw [putL_at, Nat.sub_self]; simp; rfl)
        refine ⟨h', gl', ?_, F81_t f3 a1, ?_⟩
        · have Z9 : avA 1 198 39 [.ref 81, mvU] [] (sX L t lt rt rp sw h1 gl) (none, sX L t lt rt rp sw h' gl') := by
            refine a_aload_0 rfl rfl ?_
            refine a_aload_0 rfl rfl ?_
            refine a_geti rfl rfl rfl (fun _ _ _ => rfl) ?_
            refine a_as (y := nI (p)) e7 ?_
            refine a_puti rfl rfl rfl rfl ?_
            refine a_aload_0 rfl rfl ?_
            refine a_aload_0 rfl rfl ?_
            refine a_geti rfl rfl rfl (fun _ _ _ => rfl) ?_
            refine a_as (y := nI (p)) x7 ?_
            refine a_virtI rfl rfl (r_byT H2 c0) (Nat.le_of_ble_eq_true rfl) ⟨rfl, rfl, rfl, rfl⟩ rfl rfl rfl (Nat.le_of_ble_eq_true rfl) rfl rfl ?_
            refine a_istore_1 rfl rfl rfl ?_
            refine a_iload_1 rfl rfl ?_
            refine a_ifN_ge rfl rfl rfl (by omega) (fun _ => ?_) (fun c_57 => False.elim (by omega))
            refine a_iload_1 rfl rfl ?_
            refine a_statI rfl rfl (r_isFig (b p) l1) (Nat.le_of_ble_eq_true rfl) ⟨rfl, rfl, rfl⟩ rfl rfl rfl (Nat.le_of_ble_eq_true rfl) rfl ?_
            refine a_ifb_eq rfl rfl rfl (fun _ => ?_) (fun c_72 => by first | exact absurd cD c_72 | exact absurd c_72 cD)
            refine a_iload_1 rfl rfl ?_
            refine a_statI rfl rfl (r_isLet (b p) l1) (Nat.le_of_ble_eq_true rfl) ⟨rfl, rfl, rfl⟩ rfl rfl rfl (Nat.le_of_ble_eq_true rfl) rfl ?_
            refine a_ifb_eq rfl rfl rfl (fun c_155 => by first | exact absurd c_155 (not_not_intro cL) | exact absurd (not_not_intro cL) c_155) (fun _ => ?_)
            refine a_aload_0 rfl rfl ?_
            refine a_iconst (v := (nI 2)) rfl rfl rfl ?_
            refine a_puti rfl rfl rfl rfl ?_
            refine a_aload_0 rfl rfl ?_
            refine a_lconst (v := lN 0) rfl rfl rfl ?_
            refine a_putl rfl rfl rfl rfl ?_
            exact Z
          exact Q _ Z9
        · have lr : rn isL b k p ≤ k := rn_le hp
          have LT : ∀ n q, k ≤ q + n → q ≤ k → ∀ i, q ≤ i → i < rn isL b k q → isL (b i) = true := by
            intro n
            induction n with
            | zero => intro q h1 h2 i h3 h4; rw [rn_e (fun a => by omega)] at h4; omega
            | succ n ih =>
              intro q h1 h2 i h3 h4
              by_cases c : q < k ∧ isL (b q) = true
              · rw [rn_s c] at h4
                by_cases e : i = q
                · subst e; exact c.2
                · exact ih (q + 1) (by omega) (by omega) i (by omega) h4
              · rw [rn_e c] at h4; omega
          have hb : ∀ i, i < rn isL b k p - p → 1 ≤ b (p + i) ∧ b (p + i) < 256 := fun i hi => by
            have := of_decide_eq_true (LT k p (by omega) hp (p + i) (by omega) (by omega))
            omega
          have wl := wcF_lt b p (rn isL b k p) 31 0 rfl
          refine ⟨by rw [et]; exact a2, by rw [a3, put_at, put_at]; simp, 2, by rw [a4, put_at]; simp, ?_, fun x => by omega, fun _ => ⟨wv b p (rn isL b k p - p), a5, ?_, fun c hc => ?_⟩⟩
          · rw [et]
            refine Or.inr (Or.inr (Or.inl ⟨rfl, ?_⟩))
            show wcF b p (rn isL b k p) 31 0 < 31 ∨ wcF b p (rn isL b k p) 31 0 = 47
            have G : ∀ n w, w + n = 31 → wcF b p (rn isL b k p) n w < 31 ∨ wcF b p (rn isL b k p) n w = 47 := by
              intro n
              induction n with
              | zero => intro w _; right; rfl
              | succ n ih => intro w hw; rw [wcF]; split; left; omega; exact ih _ (by omega)
            exact G 31 0 rfl
          · have := wv_b (b := b) (p := p) (rn isL b k p - p) (fun i hi => (hb i hi).2); omega
          · rw [et]; exact wv_wc hc hb
      · have cD' : isD (b p) = false := by simpa using cD
        have cL' : isL (b p) = false := by simpa using cL
        have cB' : isB (b p) = false := by simpa using cB
        have s1 := sg_60 (b p)
        have s2 := sg_62 (b p)
        obtain ⟨τ, eτ⟩ : ∃ τ, τ = (if sgC (b p) ≠ 47 ∨ b p = 58 then b p else 3) := ⟨_, rfl⟩
        have tr := TR_sg (b p) τ eτ
        have f3 : F81 h (mvPut (mvPut (mvPut h1 81 8 (nI p)) 81 9 (nI τ)) 81 7 (nI (p + 1))) := F81_t (F81_t f2 (F81_p (by omega))) (F81_p (by omega))
        have H3 := RP_f H f3
        have nτ : τ ≠ 1 ∧ τ ≠ 2 := by
          by_cases g : sgC (b p) ≠ 47 ∨ b p = 58
          · rw [if_pos g] at eτ
            have o := sg_out (b p) l1
            omega
          · rw [if_neg g] at eτ; omega
        by_cases w : (b p = 60 ∨ b p = 62) ∧ p + 1 < k ∧ b (p + 1) = 61
        · have et : tk b k p = (sgC (b p) + 11, 0, p + 2) := by unfold tk; rw [if_neg (by omega), if_neg cL, if_neg cD, if_pos w]
          have eτ' : τ = b p := by rw [if_pos (by omega)] at eτ; exact eτ
          obtain ⟨u, eu⟩ : ∃ u : Nat, (b p = 60 ∧ u = 4) ∨ (b p = 62 ∧ u = 5) := by
            rcases w.1 with q | q
            · exact ⟨4, Or.inl ⟨q, rfl⟩⟩
            · exact ⟨5, Or.inr ⟨q, rfl⟩⟩
          refine ⟨mvPut (mvPut (mvPut (mvPut (mvPut h1 81 8 (nI p)) 81 9 (nI τ)) 81 7 (nI (p + 1))) 81 9 (nI u)) 81 7 (nI (p + 2)), gl, ?_, F81_t (F81_t f3 (F81_p (by omega))) (F81_p (by omega)), ?_⟩
          · refine Q _ ?_
            rw [eτ'] at H3 ⊢
            rcases eu with ⟨q, rfl⟩ | ⟨q, rfl⟩
            · refine a_aload_0 rfl rfl ?_
              refine a_aload_0 rfl rfl ?_
              refine a_geti rfl rfl rfl (fun _ _ _ => rfl) ?_
              refine a_as (y := nI (p)) e7 ?_
              refine a_puti rfl rfl rfl rfl ?_
              refine a_aload_0 rfl rfl ?_
              refine a_aload_0 rfl rfl ?_
              refine a_geti rfl rfl rfl (fun _ _ _ => rfl) ?_
              refine a_as (y := nI (p)) x7 ?_
              refine a_virtI rfl rfl (r_byT H2 c0) (Nat.le_of_ble_eq_true rfl) ⟨rfl, rfl, rfl, rfl⟩ rfl rfl rfl (Nat.le_of_ble_eq_true rfl) rfl rfl ?_
              refine a_istore_1 rfl rfl rfl ?_
              refine a_iload_1 rfl rfl ?_
              refine a_ifN_ge rfl rfl rfl (by omega) (fun _ => ?_) (fun c_57 => False.elim (by omega))
              refine a_iload_1 rfl rfl ?_
              refine a_statI rfl rfl (r_isFig (b p) l1) (Nat.le_of_ble_eq_true rfl) ⟨rfl, rfl, rfl⟩ rfl rfl rfl (Nat.le_of_ble_eq_true rfl) rfl ?_
              refine a_ifb_eq rfl rfl rfl (fun _ => ?_) (fun c_72 => by first | exact absurd cD c_72 | exact absurd c_72 cD)
              refine a_iload_1 rfl rfl ?_
              refine a_statI rfl rfl (r_isLet (b p) l1) (Nat.le_of_ble_eq_true rfl) ⟨rfl, rfl, rfl⟩ rfl rfl rfl (Nat.le_of_ble_eq_true rfl) rfl ?_
              refine a_ifb_eq rfl rfl rfl (fun _ => ?_) (fun c_155 => by first | exact absurd cL c_155 | exact absurd c_155 cL)
              refine a_aload_0 rfl rfl ?_
              refine a_iload_1 rfl rfl ?_
              refine a_statI rfl rfl (r_isSign (b p) l1) (Nat.le_of_ble_eq_true rfl) ⟨rfl, rfl, rfl⟩ rfl rfl rfl (Nat.le_of_ble_eq_true rfl) rfl ?_
              refine a_ifb_eq rfl rfl rfl (fun c_239 => by first | exact absurd c_239 (not_not_intro (by omega)) | exact absurd (not_not_intro (by omega)) c_239) (fun _ => ?_)
              refine a_iload_1 rfl rfl ?_
              refine a_goto rfl rfl ?_
              refine a_puti rfl rfl rfl rfl ?_
              refine a_aload_0 rfl rfl ?_
              refine a_dup rfl rfl rfl ?_
              refine a_geti rfl rfl rfl (fun _ _ _ => rfl) ?_
              refine a_as (y := nI (p)) (by rw [put_at]; simp; exact x7) ?_
              refine a_iconst (v := (nI 1)) rfl rfl rfl ?_
              refine a_iaddN rfl rfl ?_
              refine a_puti rfl rfl rfl rfl ?_
              refine a_iload_1 rfl rfl ?_
              refine a_bipush (v := (nI 60)) rfl rfl rfl ?_
              refine a_cmpN_eq rfl rfl rfl (by omega) (by omega) (fun _ => ?_) (fun c_263 => False.elim (by omega))
              refine a_aload_0 rfl rfl ?_
              refine a_aload_0 rfl rfl ?_
              refine a_geti rfl rfl rfl (fun _ _ _ => rfl) ?_
              refine a_as (y := nI (p + 1)) (by rw [put_at]; simp) ?_
              refine a_virtI rfl rfl (r_byT H3 w.2.1) (Nat.le_of_ble_eq_true rfl) ⟨rfl, rfl, rfl, rfl⟩ rfl rfl rfl (Nat.le_of_ble_eq_true rfl) rfl rfl ?_
              refine a_bipush (v := (nI 61)) rfl rfl rfl ?_
              refine a_cmpN_ne rfl rfl rfl (by omega) (by omega) (fun c_282 => False.elim (by omega)) (fun _ => ?_)
              refine a_aload_0 rfl rfl ?_
              refine a_iload_1 rfl rfl ?_
              refine a_bipush (v := (nI 60)) rfl rfl rfl ?_
              refine a_cmpN_ne rfl rfl rfl (by omega) (by omega) (fun c_289 => False.elim (by omega)) (fun _ => ?_)
              refine a_iconst (v := (nI 4)) rfl rfl rfl ?_
              refine a_goto rfl rfl ?_
              refine a_puti rfl rfl rfl rfl ?_
              refine a_aload_0 rfl rfl ?_
              refine a_dup rfl rfl rfl ?_
              refine a_geti rfl rfl rfl (fun _ _ _ => rfl) ?_
              refine a_as (y := nI (p + 1)) (by rw [put_at, put_at]; simp) ?_
              refine a_iconst (v := (nI 1)) rfl rfl rfl ?_
              refine a_iaddN rfl rfl ?_
              refine a_puti rfl rfl rfl rfl ?_
              exact a_vret rfl rfl
            · refine a_aload_0 rfl rfl ?_
              refine a_aload_0 rfl rfl ?_
              refine a_geti rfl rfl rfl (fun _ _ _ => rfl) ?_
              refine a_as (y := nI (p)) e7 ?_
              refine a_puti rfl rfl rfl rfl ?_
              refine a_aload_0 rfl rfl ?_
              refine a_aload_0 rfl rfl ?_
              refine a_geti rfl rfl rfl (fun _ _ _ => rfl) ?_
              refine a_as (y := nI (p)) x7 ?_
              refine a_virtI rfl rfl (r_byT H2 c0) (Nat.le_of_ble_eq_true rfl) ⟨rfl, rfl, rfl, rfl⟩ rfl rfl rfl (Nat.le_of_ble_eq_true rfl) rfl rfl ?_
              refine a_istore_1 rfl rfl rfl ?_
              refine a_iload_1 rfl rfl ?_
              refine a_ifN_ge rfl rfl rfl (by omega) (fun _ => ?_) (fun c_57 => False.elim (by omega))
              refine a_iload_1 rfl rfl ?_
              refine a_statI rfl rfl (r_isFig (b p) l1) (Nat.le_of_ble_eq_true rfl) ⟨rfl, rfl, rfl⟩ rfl rfl rfl (Nat.le_of_ble_eq_true rfl) rfl ?_
              refine a_ifb_eq rfl rfl rfl (fun _ => ?_) (fun c_72 => by first | exact absurd cD c_72 | exact absurd c_72 cD)
              refine a_iload_1 rfl rfl ?_
              refine a_statI rfl rfl (r_isLet (b p) l1) (Nat.le_of_ble_eq_true rfl) ⟨rfl, rfl, rfl⟩ rfl rfl rfl (Nat.le_of_ble_eq_true rfl) rfl ?_
              refine a_ifb_eq rfl rfl rfl (fun _ => ?_) (fun c_155 => by first | exact absurd cL c_155 | exact absurd c_155 cL)
              refine a_aload_0 rfl rfl ?_
              refine a_iload_1 rfl rfl ?_
              refine a_statI rfl rfl (r_isSign (b p) l1) (Nat.le_of_ble_eq_true rfl) ⟨rfl, rfl, rfl⟩ rfl rfl rfl (Nat.le_of_ble_eq_true rfl) rfl ?_
              refine a_ifb_eq rfl rfl rfl (fun c_239 => by first | exact absurd c_239 (not_not_intro (by omega)) | exact absurd (not_not_intro (by omega)) c_239) (fun _ => ?_)
              refine a_iload_1 rfl rfl ?_
              refine a_goto rfl rfl ?_
              refine a_puti rfl rfl rfl rfl ?_
              refine a_aload_0 rfl rfl ?_
              refine a_dup rfl rfl rfl ?_
              refine a_geti rfl rfl rfl (fun _ _ _ => rfl) ?_
              refine a_as (y := nI (p)) (by rw [put_at]; simp; exact x7) ?_
              refine a_iconst (v := (nI 1)) rfl rfl rfl ?_
              refine a_iaddN rfl rfl ?_
              refine a_puti rfl rfl rfl rfl ?_
              refine a_iload_1 rfl rfl ?_
              refine a_bipush (v := (nI 60)) rfl rfl rfl ?_
              refine a_cmpN_eq rfl rfl rfl (by omega) (by omega) (fun c_263 => False.elim (by omega)) (fun _ => ?_)
              refine a_iload_1 rfl rfl ?_
              refine a_bipush (v := (nI 62)) rfl rfl rfl ?_
              refine a_cmpN_ne rfl rfl rfl (by omega) (by omega) (fun c_269 => False.elim (by omega)) (fun _ => ?_)
              refine a_aload_0 rfl rfl ?_
              refine a_aload_0 rfl rfl ?_
              refine a_geti rfl rfl rfl (fun _ _ _ => rfl) ?_
              refine a_as (y := nI (p + 1)) (by rw [put_at]; simp) ?_
              refine a_virtI rfl rfl (r_byT H3 w.2.1) (Nat.le_of_ble_eq_true rfl) ⟨rfl, rfl, rfl, rfl⟩ rfl rfl rfl (Nat.le_of_ble_eq_true rfl) rfl rfl ?_
              refine a_bipush (v := (nI 61)) rfl rfl rfl ?_
              refine a_cmpN_ne rfl rfl rfl (by omega) (by omega) (fun c_282 => False.elim (by omega)) (fun _ => ?_)
              refine a_aload_0 rfl rfl ?_
              refine a_iload_1 rfl rfl ?_
              refine a_bipush (v := (nI 60)) rfl rfl rfl ?_
              refine a_cmpN_ne rfl rfl rfl (by omega) (by omega) (fun _ => ?_) (fun c_289 => False.elim (by omega))
              refine a_iconst (v := (nI 5)) rfl rfl rfl ?_
              refine a_puti rfl rfl rfl rfl ?_
              refine a_aload_0 rfl rfl ?_
              refine a_dup rfl rfl rfl ?_
              refine a_geti rfl rfl rfl (fun _ _ _ => rfl) ?_
              refine a_as (y := nI (p + 1)) (by rw [put_at, put_at]; simp) ?_
              refine a_iconst (v := (nI 1)) rfl rfl rfl ?_
              refine a_iaddN rfl rfl ?_
              refine a_puti rfl rfl rfl rfl ?_
              exact a_vret rfl rfl
          · refine ⟨by rw [et, put_at]; simp, by rw [put_at, put_at, put_at, put_at, put_at]; simp, u, by rw [put_at, put_at]; simp, ?_, fun x => by omega, fun x => by omega⟩
            rw [et]
            unfold TR
            rcases eu with ⟨q, rfl⟩ | ⟨q, rfl⟩
            · have := s1.mpr q; simp [this]
            · have := s2.mpr q; simp [this]
        · have et : tk b k p = (sgC (b p), 0, p + 1) := by unfold tk; rw [if_neg (by omega), if_neg cL, if_neg cD, if_neg w]
          refine ⟨mvPut (mvPut (mvPut h1 81 8 (nI p)) 81 9 (nI τ)) 81 7 (nI (p + 1)), gl, ?_, f3, ?_⟩
          · refine Q _ ?_
            by_cases g : sgC (b p) ≠ 47 ∨ b p = 58
            · have eτ' : τ = b p := by rw [if_pos g] at eτ; exact eτ
              rw [eτ'] at H3 ⊢
              by_cases a : b p = 60 ∨ b p = 62
              · by_cases k1 : p + 1 < k
                · have ne : b (p + 1) ≠ 61 := fun z => w ⟨a, k1, z⟩
                  have l2 := (H.2.2 (p + 1) k1).2
                  refine a_aload_0 rfl rfl ?_
                  refine a_aload_0 rfl rfl ?_
                  refine a_geti rfl rfl rfl (fun _ _ _ => rfl) ?_
                  refine a_as (y := nI (p)) e7 ?_
                  refine a_puti rfl rfl rfl rfl ?_
                  refine a_aload_0 rfl rfl ?_
                  refine a_aload_0 rfl rfl ?_
                  refine a_geti rfl rfl rfl (fun _ _ _ => rfl) ?_
                  refine a_as (y := nI (p)) x7 ?_
                  refine a_virtI rfl rfl (r_byT H2 c0) (Nat.le_of_ble_eq_true rfl) ⟨rfl, rfl, rfl, rfl⟩ rfl rfl rfl (Nat.le_of_ble_eq_true rfl) rfl rfl ?_
                  refine a_istore_1 rfl rfl rfl ?_
                  refine a_iload_1 rfl rfl ?_
                  refine a_ifN_ge rfl rfl rfl (by omega) (fun _ => ?_) (fun c_57 => False.elim (by omega))
                  refine a_iload_1 rfl rfl ?_
                  refine a_statI rfl rfl (r_isFig (b p) l1) (Nat.le_of_ble_eq_true rfl) ⟨rfl, rfl, rfl⟩ rfl rfl rfl (Nat.le_of_ble_eq_true rfl) rfl ?_
                  refine a_ifb_eq rfl rfl rfl (fun _ => ?_) (fun c_72 => by first | exact absurd cD c_72 | exact absurd c_72 cD)
                  refine a_iload_1 rfl rfl ?_
                  refine a_statI rfl rfl (r_isLet (b p) l1) (Nat.le_of_ble_eq_true rfl) ⟨rfl, rfl, rfl⟩ rfl rfl rfl (Nat.le_of_ble_eq_true rfl) rfl ?_
                  refine a_ifb_eq rfl rfl rfl (fun _ => ?_) (fun c_155 => by first | exact absurd cL c_155 | exact absurd c_155 cL)
                  refine a_aload_0 rfl rfl ?_
                  refine a_iload_1 rfl rfl ?_
                  refine a_statI rfl rfl (r_isSign (b p) l1) (Nat.le_of_ble_eq_true rfl) ⟨rfl, rfl, rfl⟩ rfl rfl rfl (Nat.le_of_ble_eq_true rfl) rfl ?_
                  refine a_ifb_eq rfl rfl rfl (fun c_239 => by first | exact absurd c_239 (not_not_intro g) | exact absurd (not_not_intro g) c_239) (fun _ => ?_)
                  refine a_iload_1 rfl rfl ?_
                  refine a_goto rfl rfl ?_
                  refine a_puti rfl rfl rfl rfl ?_
                  refine a_aload_0 rfl rfl ?_
                  refine a_dup rfl rfl rfl ?_
                  refine a_geti rfl rfl rfl (fun _ _ _ => rfl) ?_
                  refine a_as (y := nI (p)) (by rw [put_at]; simp; exact x7) ?_
                  refine a_iconst (v := (nI 1)) rfl rfl rfl ?_
                  refine a_iaddN rfl rfl ?_
                  refine a_puti rfl rfl rfl rfl ?_
                  refine a_iload_1 rfl rfl ?_
                  refine a_bipush (v := (nI 60)) rfl rfl rfl ?_
                  refine a_cmpN_eq rfl rfl rfl (by omega) (by omega) (fun c_263 => ?_) (fun c_263 => ?_)
                  · refine a_aload_0 rfl rfl ?_
                    refine a_aload_0 rfl rfl ?_
                    refine a_geti rfl rfl rfl (fun _ _ _ => rfl) ?_
                    refine a_as (y := nI (p + 1)) (by rw [put_at]; simp) ?_
                    refine a_virtI rfl rfl (r_byT H3 k1) (Nat.le_of_ble_eq_true rfl) ⟨rfl, rfl, rfl, rfl⟩ rfl rfl rfl (Nat.le_of_ble_eq_true rfl) rfl rfl ?_
                    refine a_bipush (v := (nI 61)) rfl rfl rfl ?_
                    refine a_cmpN_ne rfl rfl rfl (by omega) (by omega) (fun _ => ?_) (fun c_282 => False.elim (by omega))
                    exact a_vret rfl rfl
                  · refine a_iload_1 rfl rfl ?_
                    refine a_bipush (v := (nI 62)) rfl rfl rfl ?_
                    refine a_cmpN_ne rfl rfl rfl (by omega) (by omega) (fun c_269 => False.elim (by omega)) (fun _ => ?_)
                    refine a_aload_0 rfl rfl ?_
                    refine a_aload_0 rfl rfl ?_
                    refine a_geti rfl rfl rfl (fun _ _ _ => rfl) ?_
                    refine a_as (y := nI (p + 1)) (by rw [put_at]; simp) ?_
                    refine a_virtI rfl rfl (r_byT H3 k1) (Nat.le_of_ble_eq_true rfl) ⟨rfl, rfl, rfl, rfl⟩ rfl rfl rfl (Nat.le_of_ble_eq_true rfl) rfl rfl ?_
                    refine a_bipush (v := (nI 61)) rfl rfl rfl ?_
                    refine a_cmpN_ne rfl rfl rfl (by omega) (by omega) (fun _ => ?_) (fun c_282 => False.elim (by omega))
                    exact a_vret rfl rfl
                · refine a_aload_0 rfl rfl ?_
                  refine a_aload_0 rfl rfl ?_
                  refine a_geti rfl rfl rfl (fun _ _ _ => rfl) ?_
                  refine a_as (y := nI (p)) e7 ?_
                  refine a_puti rfl rfl rfl rfl ?_
                  refine a_aload_0 rfl rfl ?_
                  refine a_aload_0 rfl rfl ?_
                  refine a_geti rfl rfl rfl (fun _ _ _ => rfl) ?_
                  refine a_as (y := nI (p)) x7 ?_
                  refine a_virtI rfl rfl (r_byT H2 c0) (Nat.le_of_ble_eq_true rfl) ⟨rfl, rfl, rfl, rfl⟩ rfl rfl rfl (Nat.le_of_ble_eq_true rfl) rfl rfl ?_
                  refine a_istore_1 rfl rfl rfl ?_
                  refine a_iload_1 rfl rfl ?_
                  refine a_ifN_ge rfl rfl rfl (by omega) (fun _ => ?_) (fun c_57 => False.elim (by omega))
                  refine a_iload_1 rfl rfl ?_
                  refine a_statI rfl rfl (r_isFig (b p) l1) (Nat.le_of_ble_eq_true rfl) ⟨rfl, rfl, rfl⟩ rfl rfl rfl (Nat.le_of_ble_eq_true rfl) rfl ?_
                  refine a_ifb_eq rfl rfl rfl (fun _ => ?_) (fun c_72 => by first | exact absurd cD c_72 | exact absurd c_72 cD)
                  refine a_iload_1 rfl rfl ?_
                  refine a_statI rfl rfl (r_isLet (b p) l1) (Nat.le_of_ble_eq_true rfl) ⟨rfl, rfl, rfl⟩ rfl rfl rfl (Nat.le_of_ble_eq_true rfl) rfl ?_
                  refine a_ifb_eq rfl rfl rfl (fun _ => ?_) (fun c_155 => by first | exact absurd cL c_155 | exact absurd c_155 cL)
                  refine a_aload_0 rfl rfl ?_
                  refine a_iload_1 rfl rfl ?_
                  refine a_statI rfl rfl (r_isSign (b p) l1) (Nat.le_of_ble_eq_true rfl) ⟨rfl, rfl, rfl⟩ rfl rfl rfl (Nat.le_of_ble_eq_true rfl) rfl ?_
                  refine a_ifb_eq rfl rfl rfl (fun c_239 => by first | exact absurd c_239 (not_not_intro g) | exact absurd (not_not_intro g) c_239) (fun _ => ?_)
                  refine a_iload_1 rfl rfl ?_
                  refine a_goto rfl rfl ?_
                  refine a_puti rfl rfl rfl rfl ?_
                  refine a_aload_0 rfl rfl ?_
                  refine a_dup rfl rfl rfl ?_
                  refine a_geti rfl rfl rfl (fun _ _ _ => rfl) ?_
                  refine a_as (y := nI (p)) (by rw [put_at]; simp; exact x7) ?_
                  refine a_iconst (v := (nI 1)) rfl rfl rfl ?_
                  refine a_iaddN rfl rfl ?_
                  refine a_puti rfl rfl rfl rfl ?_
                  refine a_iload_1 rfl rfl ?_
                  refine a_bipush (v := (nI 60)) rfl rfl rfl ?_
                  refine a_cmpN_eq rfl rfl rfl (by omega) (by omega) (fun c_263 => ?_) (fun c_263 => ?_)
                  · refine a_aload_0 rfl rfl ?_
                    refine a_aload_0 rfl rfl ?_
                    refine a_geti rfl rfl rfl (fun _ _ _ => rfl) ?_
                    refine a_as (y := nI (p + 1)) (by rw [put_at]; simp) ?_
                    refine a_virtI rfl rfl (r_byF H3 (by omega) (by omega)) (Nat.le_of_ble_eq_true rfl) ⟨rfl, rfl, rfl, rfl⟩ rfl rfl rfl (Nat.le_of_ble_eq_true rfl) rfl rfl ?_
                    refine a_bipush (v := iI (61)) rfl rfl rfl ?_
                    refine a_cmpI_ne rfl rfl rfl (iI_toInt (by omega) (by omega)) (iI_toInt (by omega) (by omega)) (fun _ => ?_) (fun c_282 => False.elim (by omega))
                    exact a_vret rfl rfl
                  · refine a_iload_1 rfl rfl ?_
                    refine a_bipush (v := (nI 62)) rfl rfl rfl ?_
                    refine a_cmpN_ne rfl rfl rfl (by omega) (by omega) (fun c_269 => False.elim (by omega)) (fun _ => ?_)
                    refine a_aload_0 rfl rfl ?_
                    refine a_aload_0 rfl rfl ?_
                    refine a_geti rfl rfl rfl (fun _ _ _ => rfl) ?_
                    refine a_as (y := nI (p + 1)) (by rw [put_at]; simp) ?_
                    refine a_virtI rfl rfl (r_byF H3 (by omega) (by omega)) (Nat.le_of_ble_eq_true rfl) ⟨rfl, rfl, rfl, rfl⟩ rfl rfl rfl (Nat.le_of_ble_eq_true rfl) rfl rfl ?_
                    refine a_bipush (v := iI (61)) rfl rfl rfl ?_
                    refine a_cmpI_ne rfl rfl rfl (iI_toInt (by omega) (by omega)) (iI_toInt (by omega) (by omega)) (fun _ => ?_) (fun c_282 => False.elim (by omega))
                    exact a_vret rfl rfl
              · refine a_aload_0 rfl rfl ?_
                refine a_aload_0 rfl rfl ?_
                refine a_geti rfl rfl rfl (fun _ _ _ => rfl) ?_
                refine a_as (y := nI (p)) e7 ?_
                refine a_puti rfl rfl rfl rfl ?_
                refine a_aload_0 rfl rfl ?_
                refine a_aload_0 rfl rfl ?_
                refine a_geti rfl rfl rfl (fun _ _ _ => rfl) ?_
                refine a_as (y := nI (p)) x7 ?_
                refine a_virtI rfl rfl (r_byT H2 c0) (Nat.le_of_ble_eq_true rfl) ⟨rfl, rfl, rfl, rfl⟩ rfl rfl rfl (Nat.le_of_ble_eq_true rfl) rfl rfl ?_
                refine a_istore_1 rfl rfl rfl ?_
                refine a_iload_1 rfl rfl ?_
                refine a_ifN_ge rfl rfl rfl (by omega) (fun _ => ?_) (fun c_57 => False.elim (by omega))
                refine a_iload_1 rfl rfl ?_
                refine a_statI rfl rfl (r_isFig (b p) l1) (Nat.le_of_ble_eq_true rfl) ⟨rfl, rfl, rfl⟩ rfl rfl rfl (Nat.le_of_ble_eq_true rfl) rfl ?_
                refine a_ifb_eq rfl rfl rfl (fun _ => ?_) (fun c_72 => by first | exact absurd cD c_72 | exact absurd c_72 cD)
                refine a_iload_1 rfl rfl ?_
                refine a_statI rfl rfl (r_isLet (b p) l1) (Nat.le_of_ble_eq_true rfl) ⟨rfl, rfl, rfl⟩ rfl rfl rfl (Nat.le_of_ble_eq_true rfl) rfl ?_
                refine a_ifb_eq rfl rfl rfl (fun _ => ?_) (fun c_155 => by first | exact absurd cL c_155 | exact absurd c_155 cL)
                refine a_aload_0 rfl rfl ?_
                refine a_iload_1 rfl rfl ?_
                refine a_statI rfl rfl (r_isSign (b p) l1) (Nat.le_of_ble_eq_true rfl) ⟨rfl, rfl, rfl⟩ rfl rfl rfl (Nat.le_of_ble_eq_true rfl) rfl ?_
                refine a_ifb_eq rfl rfl rfl (fun c_239 => by first | exact absurd c_239 (not_not_intro g) | exact absurd (not_not_intro g) c_239) (fun _ => ?_)
                refine a_iload_1 rfl rfl ?_
                refine a_goto rfl rfl ?_
                refine a_puti rfl rfl rfl rfl ?_
                refine a_aload_0 rfl rfl ?_
                refine a_dup rfl rfl rfl ?_
                refine a_geti rfl rfl rfl (fun _ _ _ => rfl) ?_
                refine a_as (y := nI (p)) (by rw [put_at]; simp; exact x7) ?_
                refine a_iconst (v := (nI 1)) rfl rfl rfl ?_
                refine a_iaddN rfl rfl ?_
                refine a_puti rfl rfl rfl rfl ?_
                refine a_iload_1 rfl rfl ?_
                refine a_bipush (v := (nI 60)) rfl rfl rfl ?_
                refine a_cmpN_eq rfl rfl rfl (by omega) (by omega) (fun c_263 => False.elim (by omega)) (fun _ => ?_)
                refine a_iload_1 rfl rfl ?_
                refine a_bipush (v := (nI 62)) rfl rfl rfl ?_
                refine a_cmpN_ne rfl rfl rfl (by omega) (by omega) (fun _ => ?_) (fun c_269 => False.elim (by omega))
                exact a_vret rfl rfl
            · have eτ' : τ = 3 := by rw [if_neg g] at eτ; exact eτ
              rw [eτ']
              refine a_aload_0 rfl rfl ?_
              refine a_aload_0 rfl rfl ?_
              refine a_geti rfl rfl rfl (fun _ _ _ => rfl) ?_
              refine a_as (y := nI (p)) e7 ?_
              refine a_puti rfl rfl rfl rfl ?_
              refine a_aload_0 rfl rfl ?_
              refine a_aload_0 rfl rfl ?_
              refine a_geti rfl rfl rfl (fun _ _ _ => rfl) ?_
              refine a_as (y := nI (p)) x7 ?_
              refine a_virtI rfl rfl (r_byT H2 c0) (Nat.le_of_ble_eq_true rfl) ⟨rfl, rfl, rfl, rfl⟩ rfl rfl rfl (Nat.le_of_ble_eq_true rfl) rfl rfl ?_
              refine a_istore_1 rfl rfl rfl ?_
              refine a_iload_1 rfl rfl ?_
              refine a_ifN_ge rfl rfl rfl (by omega) (fun _ => ?_) (fun c_57 => False.elim (by omega))
              refine a_iload_1 rfl rfl ?_
              refine a_statI rfl rfl (r_isFig (b p) l1) (Nat.le_of_ble_eq_true rfl) ⟨rfl, rfl, rfl⟩ rfl rfl rfl (Nat.le_of_ble_eq_true rfl) rfl ?_
              refine a_ifb_eq rfl rfl rfl (fun _ => ?_) (fun c_72 => by first | exact absurd cD c_72 | exact absurd c_72 cD)
              refine a_iload_1 rfl rfl ?_
              refine a_statI rfl rfl (r_isLet (b p) l1) (Nat.le_of_ble_eq_true rfl) ⟨rfl, rfl, rfl⟩ rfl rfl rfl (Nat.le_of_ble_eq_true rfl) rfl ?_
              refine a_ifb_eq rfl rfl rfl (fun _ => ?_) (fun c_155 => by first | exact absurd cL c_155 | exact absurd c_155 cL)
              refine a_aload_0 rfl rfl ?_
              refine a_iload_1 rfl rfl ?_
              refine a_statI rfl rfl (r_isSign (b p) l1) (Nat.le_of_ble_eq_true rfl) ⟨rfl, rfl, rfl⟩ rfl rfl rfl (Nat.le_of_ble_eq_true rfl) rfl ?_
              refine a_ifb_eq rfl rfl rfl (fun _ => ?_) (fun c_239 => by first | exact absurd g c_239 | exact absurd c_239 g)
              refine a_iconst (v := (nI 3)) rfl rfl rfl ?_
              refine a_puti rfl rfl rfl rfl ?_
              refine a_aload_0 rfl rfl ?_
              refine a_dup rfl rfl rfl ?_
              refine a_geti rfl rfl rfl (fun _ _ _ => rfl) ?_
              refine a_as (y := nI (p)) (by rw [put_at]; simp; exact x7) ?_
              refine a_iconst (v := (nI 1)) rfl rfl rfl ?_
              refine a_iaddN rfl rfl ?_
              refine a_puti rfl rfl rfl rfl ?_
              refine a_iload_1 rfl rfl ?_
              refine a_bipush (v := (nI 60)) rfl rfl rfl ?_
              refine a_cmpN_eq rfl rfl rfl (by omega) (by omega) (fun c_263 => False.elim (by omega)) (fun _ => ?_)
              refine a_iload_1 rfl rfl ?_
              refine a_bipush (v := (nI 62)) rfl rfl rfl ?_
              refine a_cmpN_ne rfl rfl rfl (by omega) (by omega) (fun _ => ?_) (fun c_269 => False.elim (by omega))
              exact a_vret rfl rfl
          · refine ⟨by rw [et, put_at]; simp, by rw [put_at, put_at, put_at]; simp, τ, by rw [put_at, put_at]; simp, by rw [et]; exact tr, fun x => absurd x nτ.1, fun x => absurd x nτ.2⟩
  · have e : p = k := by omega
    have et : tk b k p = (46, 0, p) := by unfold tk; rw [if_pos (by omega)]
    refine ⟨mvPut (mvPut h1 81 8 (nI p)) 81 9 (nI 0), gl, ?_, F81_t f2 (F81_p (by omega)), ?_⟩
    · have Z9 : avA 1 198 39 [.ref 81, mvU] [] (sX L t lt rt rp sw h1 gl) (none, sX L t lt rt rp sw (mvPut (mvPut h1 81 8 (nI p)) 81 9 (nI 0)) gl) := by
        refine a_aload_0 rfl rfl ?_
        refine a_aload_0 rfl rfl ?_
        refine a_geti rfl rfl rfl (fun _ _ _ => rfl) ?_
        refine a_as (y := nI (p)) e7 ?_
        refine a_puti rfl rfl rfl rfl ?_
        refine a_aload_0 rfl rfl ?_
        refine a_aload_0 rfl rfl ?_
        refine a_geti rfl rfl rfl (fun _ _ _ => rfl) ?_
        refine a_as (y := nI (p)) x7 ?_
        refine a_virtI rfl rfl (r_byF H2 (by omega) (by omega)) (Nat.le_of_ble_eq_true rfl) ⟨rfl, rfl, rfl, rfl⟩ rfl rfl rfl (Nat.le_of_ble_eq_true rfl) rfl rfl ?_
        refine a_istore_1 rfl rfl rfl ?_
        refine a_iload_1 rfl rfl ?_
        refine a_ifI_ge rfl rfl rfl (iI_toInt (by omega) (by omega)) (fun c_57 => False.elim (by omega)) (fun _ => ?_)
        refine a_aload_0 rfl rfl ?_
        refine a_iconst (v := (nI 0)) rfl rfl rfl ?_
        refine a_puti rfl rfl rfl rfl ?_
        refine a_goto rfl rfl ?_
        exact a_vret rfl rfl
      exact Q _ Z9
    · refine ⟨by rw [et, put_at]; simp; exact x7, by rw [put_at, put_at]; simp, 0, by rw [put_at]; simp, ?_, fun x => by omega, fun x => by omega⟩
      rw [et]; exact Or.inl ⟨rfl, rfl⟩
end NZ
