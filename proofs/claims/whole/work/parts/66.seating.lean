/-! SEATS: the class, cell by cell -/
theorem put_at {h : Nat → Nat → Int32} {o k : Nat} {v : Int32} (p j : Nat) : mvPut h o k v p j = if p = o ∧ j = k then v else h p j := by
  unfold mvPut va_up
  by_cases c : p = o
  · subst c
    by_cases d : j = k <;> simp [d]
  · simp [c]
theorem lyR_false (lt rt rp : Option Nat) (t : Nat) : mvPut (mvPut (mvPut (mvPut (lyR lt rt rp false t) 73 0 (some 76)) 73 1 (some 77)) 73 2 (some 74)) 73 3 (some 75) = lyR lt rt rp true t := by
  funext o
  by_cases e : o = 73
  · subst e
    funext k
    match k with
    | 0 => rfl
    | 1 => rfl
    | 2 => rfl
    | 3 => rfl
    | n + 4 => rfl
  · unfold mvPut
    rw [va_up_ne _ _ e, va_up_ne _ _ e, va_up_ne _ _ e, va_up_ne _ _ e]
    match o, e with
    | 0, _ => rfl
    | 1, _ => rfl
    | 2, _ => rfl
    | 3, _ => rfl
    | 4, _ => rfl
    | 5, _ => rfl
    | 6, _ => rfl
    | 7, _ => rfl
    | 8, _ => rfl
    | 9, _ => rfl
    | 10, _ => rfl
    | 11, _ => rfl
    | 12, _ => rfl
    | 13, _ => rfl
    | 14, _ => rfl
    | 15, _ => rfl
    | 16, _ => rfl
    | 17, _ => rfl
    | 18, _ => rfl
    | 19, _ => rfl
    | 20, _ => rfl
    | 21, _ => rfl
    | 22, _ => rfl
    | 23, _ => rfl
    | 24, _ => rfl
    | 25, _ => rfl
    | 26, _ => rfl
    | 27, _ => rfl
    | 28, _ => rfl
    | 29, _ => rfl
    | 30, _ => rfl
    | 31, _ => rfl
    | 32, _ => rfl
    | 33, _ => rfl
    | 34, _ => rfl
    | 35, _ => rfl
    | 36, _ => rfl
    | 37, _ => rfl
    | 38, _ => rfl
    | 39, _ => rfl
    | 40, _ => rfl
    | 41, _ => rfl
    | 42, _ => rfl
    | 43, _ => rfl
    | 44, _ => rfl
    | 45, _ => rfl
    | 46, _ => rfl
    | 47, _ => rfl
    | 48, _ => rfl
    | 49, _ => rfl
    | 50, _ => rfl
    | 51, _ => rfl
    | 52, _ => rfl
    | 53, _ => rfl
    | 54, _ => rfl
    | 55, _ => rfl
    | 56, _ => rfl
    | 57, _ => rfl
    | 58, _ => rfl
    | 59, _ => rfl
    | 60, _ => rfl
    | 61, _ => rfl
    | 62, _ => rfl
    | 63, _ => rfl
    | 64, _ => rfl
    | 65, _ => rfl
    | 66, _ => rfl
    | 67, _ => rfl
    | 68, _ => rfl
    | 69, _ => rfl
    | 70, _ => rfl
    | 71, _ => rfl
    | 72, _ => rfl
    | 74, _ => rfl
    | 75, _ => rfl
    | 76, _ => rfl
    | 77, _ => rfl
    | 78, _ => rfl
    | 79, _ => rfl
    | 80, _ => rfl
    | 81, _ => rfl
    | 82, _ => rfl
    | 83, _ => rfl
    | 84, _ => rfl
    | 85, _ => rfl
    | 86, _ => rfl
    | 87, _ => rfl
    | 88, _ => rfl
    | 89, _ => rfl
    | 90, _ => rfl
    | 91, _ => rfl
    | 92, _ => rfl
    | 93, _ => rfl
    | 94, _ => rfl
    | 95, _ => rfl
    | 96, _ => rfl
    | 97, _ => rfl
    | n + 98, _ =>
      show (bif Nat.ble 98 (n + 98) then _ else _) = (bif Nat.ble 98 (n + 98) then _ else _)
      rw [show Nat.ble 98 (n + 98) = true from Nat.ble_eq.mpr (by omega)]
      rfl
theorem lyR_true (lt rt rp : Option Nat) (t : Nat) : mvPut (mvPut (mvPut (mvPut (lyR lt rt rp true t) 73 0 (some 74)) 73 1 (some 75)) 73 2 (some 76)) 73 3 (some 77) = lyR lt rt rp false t := by
  funext o
  by_cases e : o = 73
  · subst e
    funext k
    match k with
    | 0 => rfl
    | 1 => rfl
    | 2 => rfl
    | 3 => rfl
    | n + 4 => rfl
  · unfold mvPut
    rw [va_up_ne _ _ e, va_up_ne _ _ e, va_up_ne _ _ e, va_up_ne _ _ e]
    match o, e with
    | 0, _ => rfl
    | 1, _ => rfl
    | 2, _ => rfl
    | 3, _ => rfl
    | 4, _ => rfl
    | 5, _ => rfl
    | 6, _ => rfl
    | 7, _ => rfl
    | 8, _ => rfl
    | 9, _ => rfl
    | 10, _ => rfl
    | 11, _ => rfl
    | 12, _ => rfl
    | 13, _ => rfl
    | 14, _ => rfl
    | 15, _ => rfl
    | 16, _ => rfl
    | 17, _ => rfl
    | 18, _ => rfl
    | 19, _ => rfl
    | 20, _ => rfl
    | 21, _ => rfl
    | 22, _ => rfl
    | 23, _ => rfl
    | 24, _ => rfl
    | 25, _ => rfl
    | 26, _ => rfl
    | 27, _ => rfl
    | 28, _ => rfl
    | 29, _ => rfl
    | 30, _ => rfl
    | 31, _ => rfl
    | 32, _ => rfl
    | 33, _ => rfl
    | 34, _ => rfl
    | 35, _ => rfl
    | 36, _ => rfl
    | 37, _ => rfl
    | 38, _ => rfl
    | 39, _ => rfl
    | 40, _ => rfl
    | 41, _ => rfl
    | 42, _ => rfl
    | 43, _ => rfl
    | 44, _ => rfl
    | 45, _ => rfl
    | 46, _ => rfl
    | 47, _ => rfl
    | 48, _ => rfl
    | 49, _ => rfl
    | 50, _ => rfl
    | 51, _ => rfl
    | 52, _ => rfl
    | 53, _ => rfl
    | 54, _ => rfl
    | 55, _ => rfl
    | 56, _ => rfl
    | 57, _ => rfl
    | 58, _ => rfl
    | 59, _ => rfl
    | 60, _ => rfl
    | 61, _ => rfl
    | 62, _ => rfl
    | 63, _ => rfl
    | 64, _ => rfl
    | 65, _ => rfl
    | 66, _ => rfl
    | 67, _ => rfl
    | 68, _ => rfl
    | 69, _ => rfl
    | 70, _ => rfl
    | 71, _ => rfl
    | 72, _ => rfl
    | 74, _ => rfl
    | 75, _ => rfl
    | 76, _ => rfl
    | 77, _ => rfl
    | 78, _ => rfl
    | 79, _ => rfl
    | 80, _ => rfl
    | 81, _ => rfl
    | 82, _ => rfl
    | 83, _ => rfl
    | 84, _ => rfl
    | 85, _ => rfl
    | 86, _ => rfl
    | 87, _ => rfl
    | 88, _ => rfl
    | 89, _ => rfl
    | 90, _ => rfl
    | 91, _ => rfl
    | 92, _ => rfl
    | 93, _ => rfl
    | 94, _ => rfl
    | 95, _ => rfl
    | 96, _ => rfl
    | 97, _ => rfl
    | n + 98, _ =>
      show (bif Nat.ble 98 (n + 98) then _ else _) = (bif Nat.ble 98 (n + 98) then _ else _)
      rw [show Nat.ble 98 (n + 98) = true from Nat.ble_eq.mpr (by omega)]
      rfl
abbrev rW (a b : Nat) (N : Nat → Nat × Nat) (h : Nat → Nat → Int32) : Prop := ∀ s, s < 64 → h a s = nI ((N s).1 - 1) ∧ h b s = nI (N s).2
theorem av_gr {d k pc : Nat} {L st : List Value} {me : Nat × Nat × (Nat → Nat × Nat)} {h : Nat → Nat → Int32} {gl : Nat → Nat → Int64} {gr gr' : Nat → Nat → Option Nat} {r : Option Value × mvSt} (e : gr = gr') (A : avA d k pc L st (me, h, gl, gr') r) : avA d k pc L st (me, h, gl, gr) r := e ▸ A
theorem rW_ext {a b : Nat} {N N' : Nat → Nat × Nat} {h h' : Nat → Nat → Int32} (H : rW a b N h) (e : ∀ s, s < 64 → N' s = N s) (ea : h' a = h a) (eb : h' b = h b) : rW a b N' h' := fun s hs => by rw [e s hs, ea, eb]; exact H s hs
section SE
variable {L t : Nat} {lt rt rp : Option Nat} {gl : Nat → Nat → Int64}
theorem s_mt : ∀ s, s < 64 → (tb (nI s) 0 = true ↔ s % 2 = 1) ∧ (tb (nI s) 5 = true ↔ ¬ s < 32) := by decide +kernel
theorem s_mv : ∀ s, s < 64 → nI s <<< (nI 1 &&& 31) &&& nI 63 = nI (2 * s % 64) ∧ nI (2 * s % 64) ||| nI 1 = nI (2 * s % 64 + 1) := by decide +kernel
theorem e_mayTake {σ : mvSt} (s c : Nat) (hs : s < 64) (hc : c < 30) : avE 1 157 [.int (nI s), .int (nI c)] σ (some (.int (bI (¬ (c % 6 ≠ 0 ∧ s % 2 = 1) ∧ s < 32))), σ) := by
  obtain ⟨q1, q2⟩ := s_mt s hs
  have C0 := e_has (σ := σ) (nI s) 0 (by omega)
  have C5 := e_has (σ := σ) (nI s) 5 (by omega)
  show avA _ 157 0 [.int (nI (s)), .int (nI (c)), mvU] [] _ _
  refine a_iload_1 rfl rfl ?_
  refine a_bipush (v := (nI 6)) rfl rfl rfl ?_
  refine a_iremN rfl rfl (by omega) (by omega) (by omega) ?_
  refine a_ifN_eq rfl rfl rfl (by omega) (fun c_4 => ?_) (fun c_4 => ?_)
  · refine a_iconst (v := (nI 0)) rfl rfl rfl ?_
    refine a_istore_2 rfl rfl rfl ?_
    refine a_iload_2 rfl rfl ?_
    refine a_ifN_ne rfl rfl rfl (by omega) (fun c_22 => absurd c_22 (by decide)) (fun _ => ?_)
    refine a_iload_0 rfl rfl ?_
    refine a_iconst (v := (nI 5)) rfl rfl rfl ?_
    refine a_statI rfl rfl (C5) (Nat.le_of_ble_eq_true rfl) ⟨rfl, rfl, rfl⟩ rfl rfl rfl (Nat.le_of_ble_eq_true rfl) rfl ?_
    refine a_ifb_ne rfl rfl rfl (fun c_30 => ?_) (fun c_30 => ?_)
    · refine a_iconst (v := (nI 0)) rfl rfl rfl ?_
      refine av_to (a_zret rfl rfl (Or.inl rfl)) (bz0 ?_)
      first | omega | (rw [q1] at *; omega) | (rw [q2] at *; omega) | (simp_all; omega) | simp_all
    · refine a_iconst (v := (nI 1)) rfl rfl rfl ?_
      refine a_goto rfl rfl ?_
      refine av_to (a_zret rfl rfl (Or.inr rfl)) (bz1 ?_)
      first | omega | (rw [q1] at *; omega) | (rw [q2] at *; omega) | (simp_all; omega) | simp_all
  · refine a_iload_0 rfl rfl ?_
    refine a_iconst (v := (nI 0)) rfl rfl rfl ?_
    refine a_statI rfl rfl (C0) (Nat.le_of_ble_eq_true rfl) ⟨rfl, rfl, rfl⟩ rfl rfl rfl (Nat.le_of_ble_eq_true rfl) rfl ?_
    refine a_ifb_eq rfl rfl rfl (fun c_12 => ?_) (fun c_12 => ?_)
    · refine a_iconst (v := (nI 0)) rfl rfl rfl ?_
      refine a_istore_2 rfl rfl rfl ?_
      refine a_iload_2 rfl rfl ?_
      refine a_ifN_ne rfl rfl rfl (by omega) (fun c_22 => absurd c_22 (by decide)) (fun _ => ?_)
      refine a_iload_0 rfl rfl ?_
      refine a_iconst (v := (nI 5)) rfl rfl rfl ?_
      refine a_statI rfl rfl (C5) (Nat.le_of_ble_eq_true rfl) ⟨rfl, rfl, rfl⟩ rfl rfl rfl (Nat.le_of_ble_eq_true rfl) rfl ?_
      refine a_ifb_ne rfl rfl rfl (fun c_30 => ?_) (fun c_30 => ?_)
      · refine a_iconst (v := (nI 0)) rfl rfl rfl ?_
        refine av_to (a_zret rfl rfl (Or.inl rfl)) (bz0 ?_)
        first | omega | (rw [q1] at *; omega) | (rw [q2] at *; omega) | (simp_all; omega) | simp_all
      · refine a_iconst (v := (nI 1)) rfl rfl rfl ?_
        refine a_goto rfl rfl ?_
        refine av_to (a_zret rfl rfl (Or.inr rfl)) (bz1 ?_)
        first | omega | (rw [q1] at *; omega) | (rw [q2] at *; omega) | (simp_all; omega) | simp_all
    · refine a_iconst (v := (nI 1)) rfl rfl rfl ?_
      refine a_goto rfl rfl ?_
      refine a_istore_2 rfl rfl rfl ?_
      refine a_iload_2 rfl rfl ?_
      refine a_ifN_ne rfl rfl rfl (by omega) (fun _ => ?_) (fun c_22 => absurd c_22 (by decide))
      refine a_iconst (v := (nI 0)) rfl rfl rfl ?_
      refine av_to (a_zret rfl rfl (Or.inl rfl)) (bz0 ?_)
      first | omega | (rw [q1] at *; omega) | (rw [q2] at *; omega) | (simp_all; omega) | simp_all
theorem e_swap_false {h : Nat → Nat → Int32} : avE 0 156 [.ref 73] (sX L t lt rt rp false h gl) (none, sX L t lt rt rp true h gl) := by
  show avA _ 156 0 [.ref 73, mvU, mvU] [] _ _
  refine a_aload_0 rfl rfl ?_
  refine a_getr rfl rfl rfl (fun _ _ _ => rfl) rfl ?_
  refine a_astore_1 rfl rfl rfl ?_
  refine a_aload_0 rfl rfl ?_
  refine a_getr rfl rfl rfl (fun _ _ _ => rfl) rfl ?_
  refine a_astore_2 rfl rfl rfl ?_
  refine a_aload_0 rfl rfl ?_
  refine a_aload_0 rfl rfl ?_
  refine a_getr rfl rfl rfl (fun _ _ _ => rfl) rfl ?_
  refine a_putrS rfl rfl rfl rfl ?_
  refine a_aload_0 rfl rfl ?_
  refine a_aload_0 rfl rfl ?_
  refine a_getr rfl rfl rfl (fun _ _ _ => rfl) (by rfl) ?_
  refine a_putrS rfl rfl rfl rfl ?_
  refine a_aload_0 rfl rfl ?_
  refine a_aload_1 rfl rfl ?_
  refine a_putrS rfl rfl rfl rfl ?_
  refine a_aload_0 rfl rfl ?_
  refine a_aload_2 rfl rfl ?_
  refine a_putrS rfl rfl rfl rfl ?_
  refine av_gr (lyR_false lt rt rp t) ?_
  exact a_vret rfl rfl
theorem l_clear_false (m : Nat) : ∀ (i : Nat) (h : Nat → Nat → Int32), i + m = 64 → (∀ s, s < i → h 76 s = nI 0 ∧ h 77 s = nI 0) → ∃ h', avA 0 154 2 [.ref 73, .int (nI i)] [] (sX L t lt rt rp false h gl) (none, sX L t lt rt rp false h' gl) ∧ CF [76, 77] h h' ∧ ∀ s, s < 64 → h' 76 s = nI 0 ∧ h' 77 s = nI 0 := by
  induction m with
  | zero =>
    intro i h hi H
    have e : i = 64 := by omega
    subst e
    refine ⟨h, ?_, CF_refl, H⟩
    refine a_iload_1 rfl rfl ?_
    refine a_bipush (v := (nI 64)) rfl rfl rfl ?_
    refine a_cmpN_ge rfl rfl rfl (by omega) (by omega) (fun _ => ?_) (fun c_5 => absurd c_5 (by decide))
    exact a_vret rfl rfl
  | succ m ih =>
    intro i h hi H
    obtain ⟨h', Z, c, H'⟩ := ih (i + 1) (mvPut (mvPut h 76 i (nI 0)) 77 i (nI 0)) (by omega) (fun s hs => by
      rw [put_at, put_at, put_at, put_at]
      by_cases d : s = i
      · subst d; simp
      · simp [d]; exact H s (by omega))
    refine ⟨h', ?_, CF_trans (CF_put (CF_put CF_refl rfl) rfl) c, H'⟩
    refine a_iload_1 rfl rfl ?_
    refine a_bipush (v := (nI 64)) rfl rfl rfl ?_
    refine a_cmpN_ge rfl rfl rfl (by omega) (by omega) (fun c_5 => False.elim (by omega)) (fun _ => ?_)
    refine a_aload_0 rfl rfl ?_
    refine a_getr rfl rfl rfl (fun _ _ _ => rfl) rfl ?_
    refine a_iload_1 rfl rfl ?_
    refine a_iconst (v := (nI 0)) rfl rfl rfl ?_
    refine a_iast rfl rfl rfl rfl (by omega) (by decide) ?_
    refine a_aload_0 rfl rfl ?_
    refine a_getr rfl rfl rfl (fun _ _ _ => rfl) rfl ?_
    refine a_iload_1 rfl rfl ?_
    refine a_iconst (v := (nI 0)) rfl rfl rfl ?_
    refine a_iast rfl rfl rfl rfl (by omega) (by decide) ?_
    refine a_iinc_1 rfl rfl (nI_inc _ _) rfl ?_
    refine a_goto rfl rfl ?_
    exact Z
theorem e_clear_false {h : Nat → Nat → Int32} : ∃ h', avE 0 154 [.ref 73] (sX L t lt rt rp false h gl) (none, sX L t lt rt rp false h' gl) ∧ CF [76, 77] h h' ∧ rW 76 77 (fun _ => (0, 0)) h' := by
  obtain ⟨h', Z, c, H'⟩ := l_clear_false (L := L) (t := t) (lt := lt) (rt := rt) (rp := rp) (gl := gl) 64 0 h rfl (fun s hs => absurd hs (by omega))
  refine ⟨h', ?_, c, H'⟩
  show avA _ 154 0 [.ref 73, mvU] [] _ _
  refine a_iconst (v := (nI 0)) rfl rfl rfl ?_
  refine a_istore_1 rfl rfl rfl ?_
  exact Z
theorem e_offer_false {N : Nat → Nat × Nat} {h : Nat → Nat → Int32} (W : rW 76 77 N h) {s a w : Nat} (hs : s < 64) (hz : wz (N s)) (b1 : (N s).1 ≤ 100) (b2 : (N s).2 + w ≤ 1073741824) (ha : a ≤ 100) (hw : 0 < w) : ∃ h', avE 0 155 [.ref 73, .int (nI s), .int (nI a), .int (nI w)] (sX L t lt rt rp false h gl) (none, sX L t lt rt rp false h' gl) ∧ CF [76, 77] h h' ∧ rW 76 77 (va_up N s (wA (N s) (a + 1, w))) h' := by
  obtain ⟨e1, e2⟩ := W s hs
  unfold wz at hz
  rcases Nat.lt_trichotomy (N s).1 (a + 1) with k | k | k
  · refine ⟨mvPut (mvPut h 76 s (nI a)) 77 s (nI w), ?_, CF_put (CF_put CF_refl rfl) rfl, fun x hx => ?_⟩
    · show avA _ 155 0 [.ref 73, .int (nI (s)), .int (nI (a)), .int (nI (w))] [] _ _
      refine a_aload_0 rfl rfl ?_
      refine a_getr rfl rfl rfl (fun _ _ _ => rfl) rfl ?_
      refine a_iload_1 rfl rfl ?_
      refine a_iald rfl rfl (Or.inl rfl) rfl (by omega) (by decide) ?_
      refine a_as (y := nI ((N s).2)) e2 ?_
      refine a_ifN_eq rfl rfl rfl (by omega) (fun c_6 => ?_) (fun c_6 => ?_)
      · refine a_aload_0 rfl rfl ?_
        refine a_getr rfl rfl rfl (fun _ _ _ => rfl) rfl ?_
        refine a_iload_1 rfl rfl ?_
        refine a_iload_2 rfl rfl ?_
        refine a_iast rfl rfl rfl rfl (by omega) (by decide) ?_
        refine a_aload_0 rfl rfl ?_
        refine a_getr rfl rfl rfl (fun _ _ _ => rfl) rfl ?_
        refine a_iload_1 rfl rfl ?_
        refine a_iload_3 rfl rfl ?_
        refine a_iast rfl rfl rfl rfl (by omega) (by decide) ?_
        refine a_goto rfl rfl ?_
        exact a_vret rfl rfl
      · refine a_iload_2 rfl rfl ?_
        refine a_aload_0 rfl rfl ?_
        refine a_getr rfl rfl rfl (fun _ _ _ => rfl) rfl ?_
        refine a_iload_1 rfl rfl ?_
        refine a_iald rfl rfl (Or.inl rfl) rfl (by omega) (by decide) ?_
        refine a_as (y := nI (((N s).1 - 1))) e1 ?_
        refine a_cmpN_le rfl rfl rfl (by omega) (by omega) (fun c_16 => False.elim (by omega)) (fun _ => ?_)
        refine a_aload_0 rfl rfl ?_
        refine a_getr rfl rfl rfl (fun _ _ _ => rfl) rfl ?_
        refine a_iload_1 rfl rfl ?_
        refine a_iload_2 rfl rfl ?_
        refine a_iast rfl rfl rfl rfl (by omega) (by decide) ?_
        refine a_aload_0 rfl rfl ?_
        refine a_getr rfl rfl rfl (fun _ _ _ => rfl) rfl ?_
        refine a_iload_1 rfl rfl ?_
        refine a_iload_3 rfl rfl ?_
        refine a_iast rfl rfl rfl rfl (by omega) (by decide) ?_
        refine a_goto rfl rfl ?_
        exact a_vret rfl rfl
    · rw [put_at, put_at, put_at, put_at]
      by_cases d : x = s
      · subst d
        rw [va_up_self, wA, if_pos k]
        simp
      · rw [va_up_ne _ _ d]
        simp [d]
        exact W x hx
  · refine ⟨mvPut h 77 s (nI ((N s).2 + w)), ?_, CF_put CF_refl rfl, fun x hx => ?_⟩
    · show avA _ 155 0 [.ref 73, .int (nI (s)), .int (nI (a)), .int (nI (w))] [] _ _
      refine a_aload_0 rfl rfl ?_
      refine a_getr rfl rfl rfl (fun _ _ _ => rfl) rfl ?_
      refine a_iload_1 rfl rfl ?_
      refine a_iald rfl rfl (Or.inl rfl) rfl (by omega) (by decide) ?_
      refine a_as (y := nI ((N s).2)) e2 ?_
      refine a_ifN_eq rfl rfl rfl (by omega) (fun c_6 => False.elim (by omega)) (fun _ => ?_)
      refine a_iload_2 rfl rfl ?_
      refine a_aload_0 rfl rfl ?_
      refine a_getr rfl rfl rfl (fun _ _ _ => rfl) rfl ?_
      refine a_iload_1 rfl rfl ?_
      refine a_iald rfl rfl (Or.inl rfl) rfl (by omega) (by decide) ?_
      refine a_as (y := nI (((N s).1 - 1))) e1 ?_
      refine a_cmpN_le rfl rfl rfl (by omega) (by omega) (fun _ => ?_) (fun c_16 => False.elim (by omega))
      refine a_iload_2 rfl rfl ?_
      refine a_aload_0 rfl rfl ?_
      refine a_getr rfl rfl rfl (fun _ _ _ => rfl) rfl ?_
      refine a_iload_1 rfl rfl ?_
      refine a_iald rfl rfl (Or.inl rfl) rfl (by omega) (by decide) ?_
      refine a_as (y := nI (((N s).1 - 1))) e1 ?_
      refine a_cmpN_ne rfl rfl rfl (by omega) (by omega) (fun c_43 => False.elim (by omega)) (fun _ => ?_)
      refine a_aload_0 rfl rfl ?_
      refine a_getr rfl rfl rfl (fun _ _ _ => rfl) rfl ?_
      refine a_iload_1 rfl rfl ?_
      refine a_dup2 rfl rfl rfl ?_
      refine a_iald rfl rfl (Or.inl rfl) rfl (by omega) (by decide) ?_
      refine a_as (y := nI ((N s).2)) e2 ?_
      refine a_iload_3 rfl rfl ?_
      refine a_iaddN rfl rfl ?_
      refine a_iast rfl rfl rfl rfl (by omega) (by decide) ?_
      exact a_vret rfl rfl
    · rw [put_at, put_at]
      by_cases d : x = s
      · subst d
        rw [va_up_self, wA, if_neg (show ¬ (N x).1 < a + 1 by omega), if_neg (show ¬ a + 1 < (N x).1 by omega)]
        simp [e1]
      · rw [va_up_ne _ _ d]
        simp [d]
        exact W x hx
  · refine ⟨h, ?_, CF_refl, fun x hx => ?_⟩
    · show avA _ 155 0 [.ref 73, .int (nI (s)), .int (nI (a)), .int (nI (w))] [] _ _
      refine a_aload_0 rfl rfl ?_
      refine a_getr rfl rfl rfl (fun _ _ _ => rfl) rfl ?_
      refine a_iload_1 rfl rfl ?_
      refine a_iald rfl rfl (Or.inl rfl) rfl (by omega) (by decide) ?_
      refine a_as (y := nI ((N s).2)) e2 ?_
      refine a_ifN_eq rfl rfl rfl (by omega) (fun c_6 => False.elim (by omega)) (fun _ => ?_)
      refine a_iload_2 rfl rfl ?_
      refine a_aload_0 rfl rfl ?_
      refine a_getr rfl rfl rfl (fun _ _ _ => rfl) rfl ?_
      refine a_iload_1 rfl rfl ?_
      refine a_iald rfl rfl (Or.inl rfl) rfl (by omega) (by decide) ?_
      refine a_as (y := nI (((N s).1 - 1))) e1 ?_
      refine a_cmpN_le rfl rfl rfl (by omega) (by omega) (fun _ => ?_) (fun c_16 => False.elim (by omega))
      refine a_iload_2 rfl rfl ?_
      refine a_aload_0 rfl rfl ?_
      refine a_getr rfl rfl rfl (fun _ _ _ => rfl) rfl ?_
      refine a_iload_1 rfl rfl ?_
      refine a_iald rfl rfl (Or.inl rfl) rfl (by omega) (by decide) ?_
      refine a_as (y := nI (((N s).1 - 1))) e1 ?_
      refine a_cmpN_ne rfl rfl rfl (by omega) (by omega) (fun _ => ?_) (fun c_43 => False.elim (by omega))
      exact a_vret rfl rfl
    · by_cases d : x = s
      · subst d
        rw [va_up_self, wA, if_neg (show ¬ (N x).1 < a + 1 by omega), if_pos (show a + 1 < (N x).1 by omega)]
        exact W x hx
      · rw [va_up_ne _ _ d]
        exact W x hx
theorem e_goOn_false {f N : Nat → Nat × Nat} {h : Nat → Nat → Int32} (W0 : rW 74 75 f h) (W : rW 76 77 N h) {st k : Nat} (hs : st < 64) (hk : k < 2) (zf : wz (f st)) (hf : 0 < (f st).2) (b0 : (f st).1 ≤ 90) (zN : ∀ s, wz (N s)) (b1 : ∀ s, (N s).1 ≤ 100) (b2 : ∀ s, (N s).2 + (f st).2 ≤ 1073741824) : ∃ h', avE 1 158 [.ref 73, .int (nI st), .int (nI k)] (sX L t lt rt rp false h gl) (none, sX L t lt rt rp false h' gl) ∧ CF [76, 77] h h' ∧ rW 76 77 (fun s => if s = 2 * st % 64 then wA (N s) (f st) else if s = 2 * st % 64 + 1 ∧ k = 1 then wA (N s) (wH 1 (f st)) else N s) h' := by
  obtain ⟨e1, e2⟩ := W0 st hs
  obtain ⟨m1, m2⟩ := s_mv st hs
  unfold wz at zf
  have x1 : ((f st).1 - 1 + 1, (f st).2) = f st := Prod.ext (by show (f st).1 - 1 + 1 = (f st).1; omega) rfl
  have x2 : ((f st).1 - 1 + 1 + 1, (f st).2) = wH 1 (f st) := by
    unfold wH
    rw [if_neg (by omega)]
    exact Prod.ext (by show (f st).1 - 1 + 1 + 1 = (f st).1 + 1; omega) rfl
  obtain ⟨h1, C1, c1, W1⟩ := e_offer_false (L := L) (t := t) (lt := lt) (rt := rt) (rp := rp) (gl := gl) W (s := 2 * st % 64) (a := (f st).1 - 1) (by omega) (zN _) (b1 _) (b2 _) (by omega) hf
  rw [x1] at W1
  by_cases k1 : k = 1
  · have nq : (va_up N (2 * st % 64) (wA (N (2 * st % 64)) (f st))) (2 * st % 64 + 1) = N (2 * st % 64 + 1) := va_up_ne _ _ (by omega)
    obtain ⟨h2, C2, c2, W2⟩ := e_offer_false (L := L) (t := t) (lt := lt) (rt := rt) (rp := rp) (gl := gl) W1 (s := 2 * st % 64 + 1) (a := (f st).1 - 1 + 1) (by omega) (by rw [nq]; exact zN _) (by rw [nq]; exact b1 _) (by rw [nq]; exact b2 _) (by omega) hf
    rw [x2, nq] at W2
    refine ⟨h2, ?_, CF_trans c1 c2, rW_ext W2 (fun s hs => ?_) rfl rfl⟩
    · have y1 : h1 74 st = nI ((f st).1 - 1) := by rw [c1 74 rfl]; exact e1
      have y2 : h1 75 st = nI (f st).2 := by rw [c1 75 rfl]; exact e2
      show avA _ 158 0 [.ref 73, .int (nI (st)), .int (nI (k)), mvU] [] _ _
      refine a_iload_1 rfl rfl ?_
      refine a_iconst (v := (nI 1)) rfl rfl rfl ?_
      refine a_ishl rfl rfl ?_
      refine a_bipush (v := (nI 63)) rfl rfl rfl ?_
      refine a_iand rfl rfl ?_
      refine a_as (y := nI (2 * st % 64)) m1 ?_
      refine a_istore_3 rfl rfl rfl ?_
      refine a_aload_0 rfl rfl ?_
      refine a_iload_3 rfl rfl ?_
      refine a_aload_0 rfl rfl ?_
      refine a_getr rfl rfl rfl (fun _ _ _ => rfl) rfl ?_
      refine a_iload_1 rfl rfl ?_
      refine a_iald rfl rfl (Or.inl rfl) rfl (by omega) (by decide) ?_
      refine a_as (y := nI ((f st).1 - 1)) e1 ?_
      refine a_aload_0 rfl rfl ?_
      refine a_getr rfl rfl rfl (fun _ _ _ => rfl) rfl ?_
      refine a_iload_1 rfl rfl ?_
      refine a_iald rfl rfl (Or.inl rfl) rfl (by omega) (by decide) ?_
      refine a_as (y := nI ((f st).2)) e2 ?_
      refine a_virt0 rfl rfl (C1) (Nat.le_of_ble_eq_true rfl) ⟨rfl, rfl, rfl, rfl⟩ rfl rfl rfl (Nat.le_of_ble_eq_true rfl) rfl rfl ?_
      refine a_iload_2 rfl rfl ?_
      refine a_ifN_eq rfl rfl rfl (by omega) (fun c_25 => False.elim (by omega)) (fun _ => ?_)
      refine a_aload_0 rfl rfl ?_
      refine a_iload_3 rfl rfl ?_
      refine a_iconst (v := (nI 1)) rfl rfl rfl ?_
      refine a_ior rfl rfl ?_
      refine a_as (y := nI (2 * st % 64 + 1)) m2 ?_
      refine a_aload_0 rfl rfl ?_
      refine a_getr rfl rfl rfl (fun _ _ _ => rfl) rfl ?_
      refine a_iload_1 rfl rfl ?_
      refine a_iald rfl rfl (Or.inl rfl) rfl (by omega) (by decide) ?_
      refine a_as (y := nI ((f st).1 - 1)) y1 ?_
      refine a_iconst (v := (nI 1)) rfl rfl rfl ?_
      refine a_iaddN rfl rfl ?_
      refine a_aload_0 rfl rfl ?_
      refine a_getr rfl rfl rfl (fun _ _ _ => rfl) rfl ?_
      refine a_iload_1 rfl rfl ?_
      refine a_iald rfl rfl (Or.inl rfl) rfl (by omega) (by decide) ?_
      refine a_as (y := nI ((f st).2)) y2 ?_
      refine a_virt0 rfl rfl (C2) (Nat.le_of_ble_eq_true rfl) ⟨rfl, rfl, rfl, rfl⟩ rfl rfl rfl (Nat.le_of_ble_eq_true rfl) rfl rfl ?_
      exact a_vret rfl rfl
    · by_cases d : s = 2 * st % 64
      · rw [if_pos d, va_up_ne _ _ (by omega), d, va_up_self]
      · by_cases d2 : s = 2 * st % 64 + 1
        · rw [if_neg d, if_pos ⟨d2, k1⟩, d2, va_up_self]
        · rw [if_neg d, if_neg (fun x => d2 x.1), va_up_ne _ _ d2, va_up_ne _ _ d]
  · refine ⟨h1, ?_, c1, rW_ext W1 (fun s hs => ?_) rfl rfl⟩
    · show avA _ 158 0 [.ref 73, .int (nI (st)), .int (nI (k)), mvU] [] _ _
      refine a_iload_1 rfl rfl ?_
      refine a_iconst (v := (nI 1)) rfl rfl rfl ?_
      refine a_ishl rfl rfl ?_
      refine a_bipush (v := (nI 63)) rfl rfl rfl ?_
      refine a_iand rfl rfl ?_
      refine a_as (y := nI (2 * st % 64)) m1 ?_
      refine a_istore_3 rfl rfl rfl ?_
      refine a_aload_0 rfl rfl ?_
      refine a_iload_3 rfl rfl ?_
      refine a_aload_0 rfl rfl ?_
      refine a_getr rfl rfl rfl (fun _ _ _ => rfl) rfl ?_
      refine a_iload_1 rfl rfl ?_
      refine a_iald rfl rfl (Or.inl rfl) rfl (by omega) (by decide) ?_
      refine a_as (y := nI ((f st).1 - 1)) e1 ?_
      refine a_aload_0 rfl rfl ?_
      refine a_getr rfl rfl rfl (fun _ _ _ => rfl) rfl ?_
      refine a_iload_1 rfl rfl ?_
      refine a_iald rfl rfl (Or.inl rfl) rfl (by omega) (by decide) ?_
      refine a_as (y := nI ((f st).2)) e2 ?_
      refine a_virt0 rfl rfl (C1) (Nat.le_of_ble_eq_true rfl) ⟨rfl, rfl, rfl, rfl⟩ rfl rfl rfl (Nat.le_of_ble_eq_true rfl) rfl rfl ?_
      refine a_iload_2 rfl rfl ?_
      refine a_ifN_eq rfl rfl rfl (by omega) (fun _ => ?_) (fun c_25 => False.elim (by omega))
      exact a_vret rfl rfl
    · by_cases d : s = 2 * st % 64
      · rw [if_pos d, d, va_up_self]
      · rw [if_neg d, if_neg (fun x => k1 x.2), va_up_ne _ _ d]
theorem l_states_false (p : Nat → Bool) (c : Nat) (hc : c < 30) (m : Nat) : ∀ (st : Nat) (h : Nat → Nat → Int32), st + m = 64 → rW 74 75 (gS p c) h → rW 76 77 (pG (gS p c) (gOK p c) st) h → ∃ h', CF [76, 77] h h' ∧ rW 76 77 (gS p (c + 1)) h' ∧ ∀ r, avA 2 153 76 [.ref 73, .int (bsI 30 p), .int (nI c), .int (nI 64)] [] (sX L t lt rt rp false h' gl) r → avA 2 153 29 [.ref 73, .int (bsI 30 p), .int (nI c), .int (nI st)] [] (sX L t lt rt rp false h gl) r := by
  have z0 := gS_z p c
  have z1 : ∀ s, (gS p c s).1 ≤ 31 := fun s => Nat.le_trans (gS_1 p c s) (by omega)
  have z2 := gS_24 p (c := c) (by omega)
  induction m with
  | zero =>
    intro st h hst W0 W
    have e : st = 64 := by omega
    subst e
    refine ⟨h, CF_refl, rW_ext W (fun s hs => (pG_64 p c s hs).symm) rfl rfl, fun r Z => ?_⟩
    refine a_iload_3 rfl rfl ?_
    refine a_bipush (v := (nI 64)) rfl rfl rfl ?_
    refine a_cmpN_ge rfl rfl rfl (by omega) (by omega) (fun _ => ?_) (fun c_32 => absurd c_32 (by decide))
    exact Z
  | succ m ih =>
    intro st h hst W0 W
    have e2 := (W0 st (by omega)).2
    have zs := z0 st
    have b0 := z1 st
    have b2 := z2 st
    unfold wz at zs
    by_cases k0 : (gS p c st).2 = 0
    · have f0 : gS p c st = (0, 0) := Prod.ext (by show _ = 0; omega) k0
      obtain ⟨h', c', W', Z'⟩ := ih (st + 1) h (by omega) W0 (rW_ext W (fun s hs => by
        rw [pG_s (by omega) hs, f0]
        show (if _ then wA _ (0, 0) else if _ then wA _ (0, 0) else _) = _
        rw [wA_0]
        split <;> first | rfl | (split <;> rfl)) rfl rfl)
      refine ⟨h', c', W', fun r Z0 => ?_⟩
      have Z := Z' r Z0
      refine a_iload_3 rfl rfl ?_
      refine a_bipush (v := (nI 64)) rfl rfl rfl ?_
      refine a_cmpN_ge rfl rfl rfl (by omega) (by omega) (fun c_32 => False.elim (by omega)) (fun _ => ?_)
      refine a_aload_0 rfl rfl ?_
      refine a_getr rfl rfl rfl (fun _ _ _ => rfl) rfl ?_
      refine a_iload_3 rfl rfl ?_
      refine a_iald rfl rfl (Or.inl rfl) rfl (by omega) (by decide) ?_
      refine a_as (y := nI ((gS p c st).2)) e2 ?_
      refine a_ifN_le rfl rfl rfl (by omega) (fun _ => ?_) (fun c_41 => False.elim (by omega))
      refine a_iinc_3 rfl rfl (nI_inc _ _) rfl ?_
      refine a_goto rfl rfl ?_
      exact Z
    · have hx : tb (bsI 30 p) c = p c := by rw [tb_bs (by omega)]; simp [hc]
      have GO : ∀ k, k < 2 → (k = 1 ↔ (st < 32 ∧ gOK p c st = true)) → ∃ h1 h', avE 1 158 [.ref 73, .int (nI st), .int (nI k)] (sX L t lt rt rp false h gl) (none, sX L t lt rt rp false h1 gl) ∧ CF [76, 77] h h' ∧ rW 76 77 (gS p (c + 1)) h' ∧ ∀ r, avA 2 153 76 [.ref 73, .int (bsI 30 p), .int (nI c), .int (nI 64)] [] (sX L t lt rt rp false h' gl) r → avA 2 153 29 [.ref 73, .int (bsI 30 p), .int (nI c), .int (nI (st + 1))] [] (sX L t lt rt rp false h1 gl) r := by
        intro k hk ek
        obtain ⟨h1, C1, c1, W1⟩ := e_goOn_false (L := L) (t := t) (lt := lt) (rt := rt) (rp := rp) (gl := gl) W0 W (st := st) (k := k) (by omega) hk zs (by omega) (by omega) (pG_z z0 st) (fun s => Nat.le_trans (pG_1 z1 st s) (by omega)) (fun s => by have := pG_2 (ok := gOK p c) z2 st s; omega)
        obtain ⟨h', c', W', Z'⟩ := ih (st + 1) h1 (by omega) (rW_ext W0 (fun _ _ => rfl) (c1 74 rfl) (c1 75 rfl)) (rW_ext W1 (fun s hs => by
          rw [pG_s (by omega) hs]
          simp only [ek]) rfl rfl)
        exact ⟨h1, h', C1, CF_trans c1 c', W', Z'⟩
      by_cases y : st < 32 ∧ gOK p c st = true
      · obtain ⟨h1, h', C1, c', W', Z'⟩ := GO 1 (by omega) ⟨fun _ => y, fun _ => rfl⟩
        refine ⟨h', c', W', fun r Z0 => ?_⟩
        have Z := Z' r Z0
        have y2 := y.2
        unfold gOK at y2
        simp at y2
        refine a_iload_3 rfl rfl ?_
        refine a_bipush (v := (nI 64)) rfl rfl rfl ?_
        refine a_cmpN_ge rfl rfl rfl (by omega) (by omega) (fun c_32 => False.elim (by omega)) (fun _ => ?_)
        refine a_aload_0 rfl rfl ?_
        refine a_getr rfl rfl rfl (fun _ _ _ => rfl) rfl ?_
        refine a_iload_3 rfl rfl ?_
        refine a_iald rfl rfl (Or.inl rfl) rfl (by omega) (by decide) ?_
        refine a_as (y := nI ((gS p c st).2)) e2 ?_
        refine a_ifN_le rfl rfl rfl (by omega) (fun c_41 => False.elim (by omega)) (fun _ => ?_)
        refine a_aload_0 rfl rfl ?_
        refine a_iload_3 rfl rfl ?_
        refine a_iload_1 rfl rfl ?_
        refine a_iload_2 rfl rfl ?_
        refine a_statI rfl rfl (e_has _ _ (by omega)) (Nat.le_of_ble_eq_true rfl) ⟨rfl, rfl, rfl⟩ rfl rfl rfl (Nat.le_of_ble_eq_true rfl) rfl ?_
        refine a_ifb_eq rfl rfl rfl (fun c_51 => by first | exact absurd c_51 (not_not_intro (hx.trans y2.1)) | exact absurd (not_not_intro (hx.trans y2.1)) c_51) (fun _ => ?_)
        refine a_iload_3 rfl rfl ?_
        refine a_iload_2 rfl rfl ?_
        refine a_statI rfl rfl (e_mayTake st c (by omega) hc) (Nat.le_of_ble_eq_true rfl) ⟨rfl, rfl, rfl⟩ rfl rfl rfl (Nat.le_of_ble_eq_true rfl) rfl ?_
        refine a_ifb_eq rfl rfl rfl (fun c_59 => False.elim (by omega)) (fun _ => ?_)
        refine a_iconst (v := (nI 1)) rfl rfl rfl ?_
        refine a_goto rfl rfl ?_
        refine a_virt0 rfl rfl (C1) (Nat.le_of_ble_eq_true rfl) ⟨rfl, rfl, rfl, rfl⟩ rfl rfl rfl (Nat.le_of_ble_eq_true rfl) rfl rfl ?_
        refine a_iinc_3 rfl rfl (nI_inc _ _) rfl ?_
        refine a_goto rfl rfl ?_
        exact Z
      · obtain ⟨h1, h', C1, c', W', Z'⟩ := GO 0 (by omega) ⟨fun a => absurd a (by omega), fun a => absurd a y⟩
        refine ⟨h', c', W', fun r Z0 => ?_⟩
        have Z := Z' r Z0
        refine a_iload_3 rfl rfl ?_
        refine a_bipush (v := (nI 64)) rfl rfl rfl ?_
        refine a_cmpN_ge rfl rfl rfl (by omega) (by omega) (fun c_32 => False.elim (by omega)) (fun _ => ?_)
        refine a_aload_0 rfl rfl ?_
        refine a_getr rfl rfl rfl (fun _ _ _ => rfl) rfl ?_
        refine a_iload_3 rfl rfl ?_
        refine a_iald rfl rfl (Or.inl rfl) rfl (by omega) (by decide) ?_
        refine a_as (y := nI ((gS p c st).2)) e2 ?_
        refine a_ifN_le rfl rfl rfl (by omega) (fun c_41 => False.elim (by omega)) (fun _ => ?_)
        refine a_aload_0 rfl rfl ?_
        refine a_iload_3 rfl rfl ?_
        refine a_iload_1 rfl rfl ?_
        refine a_iload_2 rfl rfl ?_
        refine a_statI rfl rfl (e_has _ _ (by omega)) (Nat.le_of_ble_eq_true rfl) ⟨rfl, rfl, rfl⟩ rfl rfl rfl (Nat.le_of_ble_eq_true rfl) rfl ?_
        refine a_ifb_eq rfl rfl rfl (fun c_51 => ?_) (fun c_51 => ?_)
        · refine a_iconst (v := (nI 0)) rfl rfl rfl ?_
          refine a_virt0 rfl rfl (C1) (Nat.le_of_ble_eq_true rfl) ⟨rfl, rfl, rfl, rfl⟩ rfl rfl rfl (Nat.le_of_ble_eq_true rfl) rfl rfl ?_
          refine a_iinc_3 rfl rfl (nI_inc _ _) rfl ?_
          refine a_goto rfl rfl ?_
          exact Z
        · refine a_iload_3 rfl rfl ?_
          refine a_iload_2 rfl rfl ?_
          refine a_statI rfl rfl (e_mayTake st c (by omega) hc) (Nat.le_of_ble_eq_true rfl) ⟨rfl, rfl, rfl⟩ rfl rfl rfl (Nat.le_of_ble_eq_true rfl) rfl ?_
          refine a_ifb_eq rfl rfl rfl (fun _ => ?_) (fun c_59 => by first | exact absurd (fun a => y ⟨a.2, by unfold gOK; rw [← hx, c_51]; simp; omega⟩) c_59 | exact absurd c_59 (fun a => y ⟨a.2, by unfold gOK; rw [← hx, c_51]; simp; omega⟩))
          refine a_iconst (v := (nI 0)) rfl rfl rfl ?_
          refine a_virt0 rfl rfl (C1) (Nat.le_of_ble_eq_true rfl) ⟨rfl, rfl, rfl, rfl⟩ rfl rfl rfl (Nat.le_of_ble_eq_true rfl) rfl rfl ?_
          refine a_iinc_3 rfl rfl (nI_inc _ _) rfl ?_
          refine a_goto rfl rfl ?_
          exact Z
theorem l_coll_false (f : Nat → Nat × Nat) (z0 : ∀ s, wz (f s)) (z1 : ∀ s, (f s).1 ≤ 31) (z2 : ∀ s, (f s).2 ≤ 16777216) (m : Nat) : ∀ (i : Nat) (h : Nat → Nat → Int32), i + m = 64 → rW 74 75 f h → rW 76 77 (fun s => if s = 0 then wP f i else (0, 0)) h → ∃ h', avA 1 159 6 [.ref 73, .int (nI i)] [] (sX L t lt rt rp false h gl) (none, sX L t lt rt rp false h' gl) ∧ CF [73, 76, 77] h h' ∧ h' 73 4 = nI ((wP f 64).1 - 1) ∧ h' 73 5 = nI (wP f 64).2 := by
  induction m with
  | zero =>
    intro i h hi W0 W
    have e : i = 64 := by omega
    subst e
    obtain ⟨w1, w2⟩ := W 0 (by omega)
    refine ⟨mvPut (mvPut h 73 4 (h 76 0)) 73 5 (h 77 0), ?_, CF_put (CF_put CF_refl rfl) rfl, ?_, ?_⟩
    · refine a_iload_1 rfl rfl ?_
      refine a_bipush (v := (nI 64)) rfl rfl rfl ?_
      refine a_cmpN_ge rfl rfl rfl (by omega) (by omega) (fun _ => ?_) (fun c_9 => absurd c_9 (by decide))
      refine a_aload_0 rfl rfl ?_
      refine a_aload_0 rfl rfl ?_
      refine a_getr rfl rfl rfl (fun _ _ _ => rfl) rfl ?_
      refine a_iconst (v := (nI 0)) rfl rfl rfl ?_
      refine a_iald rfl rfl (Or.inl rfl) rfl (by omega) (by decide) ?_
      refine a_puti rfl rfl rfl rfl ?_
      refine a_aload_0 rfl rfl ?_
      refine a_aload_0 rfl rfl ?_
      refine a_getr rfl rfl rfl (fun _ _ _ => rfl) rfl ?_
      refine a_iconst (v := (nI 0)) rfl rfl rfl ?_
      refine a_iald rfl rfl (Or.inl rfl) rfl (by omega) (by decide) ?_
      refine a_puti rfl rfl rfl rfl ?_
      exact a_vret rfl rfl
    · rw [put_at, put_at]; exact w1
    · rw [put_at]; exact w2
  | succ m ih =>
    intro i h hi W0 W
    obtain ⟨e1, e2⟩ := W0 i (by omega)
    have zs := z0 i
    have b1 := z1 i
    have b2 := z2 i
    unfold wz at zs
    by_cases k0 : (f i).2 = 0
    · have f0 : f i = (0, 0) := Prod.ext (by show _ = 0; omega) k0
      obtain ⟨h', Z, c, H⟩ := ih (i + 1) h (by omega) W0 (rW_ext W (fun s hs => by rw [wP, f0, wA_0]) rfl rfl)
      refine ⟨h', ?_, c, H⟩
      refine a_iload_1 rfl rfl ?_
      refine a_bipush (v := (nI 64)) rfl rfl rfl ?_
      refine a_cmpN_ge rfl rfl rfl (by omega) (by omega) (fun c_9 => False.elim (by omega)) (fun _ => ?_)
      refine a_aload_0 rfl rfl ?_
      refine a_getr rfl rfl rfl (fun _ _ _ => rfl) rfl ?_
      refine a_iload_1 rfl rfl ?_
      refine a_iald rfl rfl (Or.inl rfl) rfl (by omega) (by decide) ?_
      refine a_as (y := nI ((f i).2)) e2 ?_
      refine a_ifN_le rfl rfl rfl (by omega) (fun _ => ?_) (fun c_18 => False.elim (by omega))
      refine a_iinc_1 rfl rfl (nI_inc _ _) rfl ?_
      refine a_goto rfl rfl ?_
      exact Z
    · have x1 : ((f i).1 - 1 + 1, (f i).2) = f i := Prod.ext (by show (f i).1 - 1 + 1 = (f i).1; omega) rfl
      have p1 := wP_1 (F := f) (n := i) (fun k _ => z1 k)
      have p2 := wP_2 (F := f) (n := i) (fun k _ => z2 k)
      obtain ⟨h1, C1, c1, W1⟩ := e_offer_false (L := L) (t := t) (lt := lt) (rt := rt) (rp := rp) (gl := gl) W (s := 0) (a := (f i).1 - 1) (w := (f i).2) (by omega) (wz_P (fun k _ => z0 k)) (by show (wP f i).1 ≤ 100; omega) (by show (wP f i).2 + (f i).2 ≤ _; omega) (by omega) (by omega)
      rw [x1] at W1
      obtain ⟨h', Z, c, H⟩ := ih (i + 1) h1 (by omega) (rW_ext W0 (fun _ _ => rfl) (c1 74 rfl) (c1 75 rfl)) (rW_ext W1 (fun s hs => by
        by_cases d : s = 0
        · subst d; rw [va_up_self]; rfl
        · rw [va_up_ne _ _ d, if_neg d, if_neg d]) rfl rfl)
      refine ⟨h', ?_, CF_trans (CF_mono (by decide) c1) c, H⟩
      refine a_iload_1 rfl rfl ?_
      refine a_bipush (v := (nI 64)) rfl rfl rfl ?_
      refine a_cmpN_ge rfl rfl rfl (by omega) (by omega) (fun c_9 => False.elim (by omega)) (fun _ => ?_)
      refine a_aload_0 rfl rfl ?_
      refine a_getr rfl rfl rfl (fun _ _ _ => rfl) rfl ?_
      refine a_iload_1 rfl rfl ?_
      refine a_iald rfl rfl (Or.inl rfl) rfl (by omega) (by decide) ?_
      refine a_as (y := nI ((f i).2)) e2 ?_
      refine a_ifN_le rfl rfl rfl (by omega) (fun c_18 => False.elim (by omega)) (fun _ => ?_)
      refine a_aload_0 rfl rfl ?_
      refine a_iconst (v := (nI 0)) rfl rfl rfl ?_
      refine a_aload_0 rfl rfl ?_
      refine a_getr rfl rfl rfl (fun _ _ _ => rfl) rfl ?_
      refine a_iload_1 rfl rfl ?_
      refine a_iald rfl rfl (Or.inl rfl) rfl (by omega) (by decide) ?_
      refine a_as (y := nI ((f i).1 - 1)) e1 ?_
      refine a_aload_0 rfl rfl ?_
      refine a_getr rfl rfl rfl (fun _ _ _ => rfl) rfl ?_
      refine a_iload_1 rfl rfl ?_
      refine a_iald rfl rfl (Or.inl rfl) rfl (by omega) (by decide) ?_
      refine a_as (y := nI ((f i).2)) e2 ?_
      refine a_virt0 rfl rfl (C1) (Nat.le_of_ble_eq_true rfl) ⟨rfl, rfl, rfl, rfl⟩ rfl rfl rfl (Nat.le_of_ble_eq_true rfl) rfl rfl ?_
      refine a_iinc_1 rfl rfl (nI_inc _ _) rfl ?_
      refine a_goto rfl rfl ?_
      exact Z
theorem e_collect_false (f : Nat → Nat × Nat) (z0 : ∀ s, wz (f s)) (z1 : ∀ s, (f s).1 ≤ 31) (z2 : ∀ s, (f s).2 ≤ 16777216) {h : Nat → Nat → Int32} (W0 : rW 74 75 f h) : ∃ h', avE 1 159 [.ref 73] (sX L t lt rt rp false h gl) (none, sX L t lt rt rp false h' gl) ∧ CF [73, 76, 77] h h' ∧ h' 73 4 = nI ((wP f 64).1 - 1) ∧ h' 73 5 = nI (wP f 64).2 := by
  obtain ⟨h1, C1, c1, W1⟩ := e_clear_false (L := L) (t := t) (lt := lt) (rt := rt) (rp := rp) (gl := gl) (h := h)
  obtain ⟨h', Z, c, H⟩ := l_coll_false (L := L) (t := t) (lt := lt) (rt := rt) (rp := rp) (gl := gl) f z0 z1 z2 64 0 h1 rfl (rW_ext W0 (fun _ _ => rfl) (c1 74 rfl) (c1 75 rfl)) (rW_ext W1 (fun s _ => by show (if s = 0 then (0, 0) else (0, 0)) = _; split <;> rfl) rfl rfl)
  refine ⟨h', ?_, CF_trans (CF_mono (by decide) c1) c, H⟩
  show avA _ 159 0 [.ref 73, mvU] [] _ _
  refine a_aload_0 rfl rfl ?_
  refine a_virt0 rfl rfl (C1) (Nat.le_of_ble_eq_true rfl) ⟨rfl, rfl, rfl, rfl⟩ rfl rfl rfl (Nat.le_of_ble_eq_true rfl) rfl rfl ?_
  refine a_iconst (v := (nI 0)) rfl rfl rfl ?_
  refine a_istore_1 rfl rfl rfl ?_
  exact Z
theorem e_swap_true {h : Nat → Nat → Int32} : avE 0 156 [.ref 73] (sX L t lt rt rp true h gl) (none, sX L t lt rt rp false h gl) := by
  show avA _ 156 0 [.ref 73, mvU, mvU] [] _ _
  refine a_aload_0 rfl rfl ?_
  refine a_getr rfl rfl rfl (fun _ _ _ => rfl) rfl ?_
  refine a_astore_1 rfl rfl rfl ?_
  refine a_aload_0 rfl rfl ?_
  refine a_getr rfl rfl rfl (fun _ _ _ => rfl) rfl ?_
  refine a_astore_2 rfl rfl rfl ?_
  refine a_aload_0 rfl rfl ?_
  refine a_aload_0 rfl rfl ?_
  refine a_getr rfl rfl rfl (fun _ _ _ => rfl) rfl ?_
  refine a_putrS rfl rfl rfl rfl ?_
  refine a_aload_0 rfl rfl ?_
  refine a_aload_0 rfl rfl ?_
  refine a_getr rfl rfl rfl (fun _ _ _ => rfl) (by rfl) ?_
  refine a_putrS rfl rfl rfl rfl ?_
  refine a_aload_0 rfl rfl ?_
  refine a_aload_1 rfl rfl ?_
  refine a_putrS rfl rfl rfl rfl ?_
  refine a_aload_0 rfl rfl ?_
  refine a_aload_2 rfl rfl ?_
  refine a_putrS rfl rfl rfl rfl ?_
  refine av_gr (lyR_true lt rt rp t) ?_
  exact a_vret rfl rfl
theorem l_clear_true (m : Nat) : ∀ (i : Nat) (h : Nat → Nat → Int32), i + m = 64 → (∀ s, s < i → h 74 s = nI 0 ∧ h 75 s = nI 0) → ∃ h', avA 0 154 2 [.ref 73, .int (nI i)] [] (sX L t lt rt rp true h gl) (none, sX L t lt rt rp true h' gl) ∧ CF [74, 75] h h' ∧ ∀ s, s < 64 → h' 74 s = nI 0 ∧ h' 75 s = nI 0 := by
  induction m with
  | zero =>
    intro i h hi H
    have e : i = 64 := by omega
    subst e
    refine ⟨h, ?_, CF_refl, H⟩
    refine a_iload_1 rfl rfl ?_
    refine a_bipush (v := (nI 64)) rfl rfl rfl ?_
    refine a_cmpN_ge rfl rfl rfl (by omega) (by omega) (fun _ => ?_) (fun c_5 => absurd c_5 (by decide))
    exact a_vret rfl rfl
  | succ m ih =>
    intro i h hi H
    obtain ⟨h', Z, c, H'⟩ := ih (i + 1) (mvPut (mvPut h 74 i (nI 0)) 75 i (nI 0)) (by omega) (fun s hs => by
      rw [put_at, put_at, put_at, put_at]
      by_cases d : s = i
      · subst d; simp
      · simp [d]; exact H s (by omega))
    refine ⟨h', ?_, CF_trans (CF_put (CF_put CF_refl rfl) rfl) c, H'⟩
    refine a_iload_1 rfl rfl ?_
    refine a_bipush (v := (nI 64)) rfl rfl rfl ?_
    refine a_cmpN_ge rfl rfl rfl (by omega) (by omega) (fun c_5 => False.elim (by omega)) (fun _ => ?_)
    refine a_aload_0 rfl rfl ?_
    refine a_getr rfl rfl rfl (fun _ _ _ => rfl) rfl ?_
    refine a_iload_1 rfl rfl ?_
    refine a_iconst (v := (nI 0)) rfl rfl rfl ?_
    refine a_iast rfl rfl rfl rfl (by omega) (by decide) ?_
    refine a_aload_0 rfl rfl ?_
    refine a_getr rfl rfl rfl (fun _ _ _ => rfl) rfl ?_
    refine a_iload_1 rfl rfl ?_
    refine a_iconst (v := (nI 0)) rfl rfl rfl ?_
    refine a_iast rfl rfl rfl rfl (by omega) (by decide) ?_
    refine a_iinc_1 rfl rfl (nI_inc _ _) rfl ?_
    refine a_goto rfl rfl ?_
    exact Z
theorem e_clear_true {h : Nat → Nat → Int32} : ∃ h', avE 0 154 [.ref 73] (sX L t lt rt rp true h gl) (none, sX L t lt rt rp true h' gl) ∧ CF [74, 75] h h' ∧ rW 74 75 (fun _ => (0, 0)) h' := by
  obtain ⟨h', Z, c, H'⟩ := l_clear_true (L := L) (t := t) (lt := lt) (rt := rt) (rp := rp) (gl := gl) 64 0 h rfl (fun s hs => absurd hs (by omega))
  refine ⟨h', ?_, c, H'⟩
  show avA _ 154 0 [.ref 73, mvU] [] _ _
  refine a_iconst (v := (nI 0)) rfl rfl rfl ?_
  refine a_istore_1 rfl rfl rfl ?_
  exact Z
theorem e_offer_true {N : Nat → Nat × Nat} {h : Nat → Nat → Int32} (W : rW 74 75 N h) {s a w : Nat} (hs : s < 64) (hz : wz (N s)) (b1 : (N s).1 ≤ 100) (b2 : (N s).2 + w ≤ 1073741824) (ha : a ≤ 100) (hw : 0 < w) : ∃ h', avE 0 155 [.ref 73, .int (nI s), .int (nI a), .int (nI w)] (sX L t lt rt rp true h gl) (none, sX L t lt rt rp true h' gl) ∧ CF [74, 75] h h' ∧ rW 74 75 (va_up N s (wA (N s) (a + 1, w))) h' := by
  obtain ⟨e1, e2⟩ := W s hs
  unfold wz at hz
  rcases Nat.lt_trichotomy (N s).1 (a + 1) with k | k | k
  · refine ⟨mvPut (mvPut h 74 s (nI a)) 75 s (nI w), ?_, CF_put (CF_put CF_refl rfl) rfl, fun x hx => ?_⟩
    · show avA _ 155 0 [.ref 73, .int (nI (s)), .int (nI (a)), .int (nI (w))] [] _ _
      refine a_aload_0 rfl rfl ?_
      refine a_getr rfl rfl rfl (fun _ _ _ => rfl) rfl ?_
      refine a_iload_1 rfl rfl ?_
      refine a_iald rfl rfl (Or.inl rfl) rfl (by omega) (by decide) ?_
      refine a_as (y := nI ((N s).2)) e2 ?_
      refine a_ifN_eq rfl rfl rfl (by omega) (fun c_6 => ?_) (fun c_6 => ?_)
      · refine a_aload_0 rfl rfl ?_
        refine a_getr rfl rfl rfl (fun _ _ _ => rfl) rfl ?_
        refine a_iload_1 rfl rfl ?_
        refine a_iload_2 rfl rfl ?_
        refine a_iast rfl rfl rfl rfl (by omega) (by decide) ?_
        refine a_aload_0 rfl rfl ?_
        refine a_getr rfl rfl rfl (fun _ _ _ => rfl) rfl ?_
        refine a_iload_1 rfl rfl ?_
        refine a_iload_3 rfl rfl ?_
        refine a_iast rfl rfl rfl rfl (by omega) (by decide) ?_
        refine a_goto rfl rfl ?_
        exact a_vret rfl rfl
      · refine a_iload_2 rfl rfl ?_
        refine a_aload_0 rfl rfl ?_
        refine a_getr rfl rfl rfl (fun _ _ _ => rfl) rfl ?_
        refine a_iload_1 rfl rfl ?_
        refine a_iald rfl rfl (Or.inl rfl) rfl (by omega) (by decide) ?_
        refine a_as (y := nI (((N s).1 - 1))) e1 ?_
        refine a_cmpN_le rfl rfl rfl (by omega) (by omega) (fun c_16 => False.elim (by omega)) (fun _ => ?_)
        refine a_aload_0 rfl rfl ?_
        refine a_getr rfl rfl rfl (fun _ _ _ => rfl) rfl ?_
        refine a_iload_1 rfl rfl ?_
        refine a_iload_2 rfl rfl ?_
        refine a_iast rfl rfl rfl rfl (by omega) (by decide) ?_
        refine a_aload_0 rfl rfl ?_
        refine a_getr rfl rfl rfl (fun _ _ _ => rfl) rfl ?_
        refine a_iload_1 rfl rfl ?_
        refine a_iload_3 rfl rfl ?_
        refine a_iast rfl rfl rfl rfl (by omega) (by decide) ?_
        refine a_goto rfl rfl ?_
        exact a_vret rfl rfl
    · rw [put_at, put_at, put_at, put_at]
      by_cases d : x = s
      · subst d
        rw [va_up_self, wA, if_pos k]
        simp
      · rw [va_up_ne _ _ d]
        simp [d]
        exact W x hx
  · refine ⟨mvPut h 75 s (nI ((N s).2 + w)), ?_, CF_put CF_refl rfl, fun x hx => ?_⟩
    · show avA _ 155 0 [.ref 73, .int (nI (s)), .int (nI (a)), .int (nI (w))] [] _ _
      refine a_aload_0 rfl rfl ?_
      refine a_getr rfl rfl rfl (fun _ _ _ => rfl) rfl ?_
      refine a_iload_1 rfl rfl ?_
      refine a_iald rfl rfl (Or.inl rfl) rfl (by omega) (by decide) ?_
      refine a_as (y := nI ((N s).2)) e2 ?_
      refine a_ifN_eq rfl rfl rfl (by omega) (fun c_6 => False.elim (by omega)) (fun _ => ?_)
      refine a_iload_2 rfl rfl ?_
      refine a_aload_0 rfl rfl ?_
      refine a_getr rfl rfl rfl (fun _ _ _ => rfl) rfl ?_
      refine a_iload_1 rfl rfl ?_
      refine a_iald rfl rfl (Or.inl rfl) rfl (by omega) (by decide) ?_
      refine a_as (y := nI (((N s).1 - 1))) e1 ?_
      refine a_cmpN_le rfl rfl rfl (by omega) (by omega) (fun _ => ?_) (fun c_16 => False.elim (by omega))
      refine a_iload_2 rfl rfl ?_
      refine a_aload_0 rfl rfl ?_
      refine a_getr rfl rfl rfl (fun _ _ _ => rfl) rfl ?_
      refine a_iload_1 rfl rfl ?_
      refine a_iald rfl rfl (Or.inl rfl) rfl (by omega) (by decide) ?_
      refine a_as (y := nI (((N s).1 - 1))) e1 ?_
      refine a_cmpN_ne rfl rfl rfl (by omega) (by omega) (fun c_43 => False.elim (by omega)) (fun _ => ?_)
      refine a_aload_0 rfl rfl ?_
      refine a_getr rfl rfl rfl (fun _ _ _ => rfl) rfl ?_
      refine a_iload_1 rfl rfl ?_
      refine a_dup2 rfl rfl rfl ?_
      refine a_iald rfl rfl (Or.inl rfl) rfl (by omega) (by decide) ?_
      refine a_as (y := nI ((N s).2)) e2 ?_
      refine a_iload_3 rfl rfl ?_
      refine a_iaddN rfl rfl ?_
      refine a_iast rfl rfl rfl rfl (by omega) (by decide) ?_
      exact a_vret rfl rfl
    · rw [put_at, put_at]
      by_cases d : x = s
      · subst d
        rw [va_up_self, wA, if_neg (show ¬ (N x).1 < a + 1 by omega), if_neg (show ¬ a + 1 < (N x).1 by omega)]
        simp [e1]
      · rw [va_up_ne _ _ d]
        simp [d]
        exact W x hx
  · refine ⟨h, ?_, CF_refl, fun x hx => ?_⟩
    · show avA _ 155 0 [.ref 73, .int (nI (s)), .int (nI (a)), .int (nI (w))] [] _ _
      refine a_aload_0 rfl rfl ?_
      refine a_getr rfl rfl rfl (fun _ _ _ => rfl) rfl ?_
      refine a_iload_1 rfl rfl ?_
      refine a_iald rfl rfl (Or.inl rfl) rfl (by omega) (by decide) ?_
      refine a_as (y := nI ((N s).2)) e2 ?_
      refine a_ifN_eq rfl rfl rfl (by omega) (fun c_6 => False.elim (by omega)) (fun _ => ?_)
      refine a_iload_2 rfl rfl ?_
      refine a_aload_0 rfl rfl ?_
      refine a_getr rfl rfl rfl (fun _ _ _ => rfl) rfl ?_
      refine a_iload_1 rfl rfl ?_
      refine a_iald rfl rfl (Or.inl rfl) rfl (by omega) (by decide) ?_
      refine a_as (y := nI (((N s).1 - 1))) e1 ?_
      refine a_cmpN_le rfl rfl rfl (by omega) (by omega) (fun _ => ?_) (fun c_16 => False.elim (by omega))
      refine a_iload_2 rfl rfl ?_
      refine a_aload_0 rfl rfl ?_
      refine a_getr rfl rfl rfl (fun _ _ _ => rfl) rfl ?_
      refine a_iload_1 rfl rfl ?_
      refine a_iald rfl rfl (Or.inl rfl) rfl (by omega) (by decide) ?_
      refine a_as (y := nI (((N s).1 - 1))) e1 ?_
      refine a_cmpN_ne rfl rfl rfl (by omega) (by omega) (fun _ => ?_) (fun c_43 => False.elim (by omega))
      exact a_vret rfl rfl
    · by_cases d : x = s
      · subst d
        rw [va_up_self, wA, if_neg (show ¬ (N x).1 < a + 1 by omega), if_pos (show a + 1 < (N x).1 by omega)]
        exact W x hx
      · rw [va_up_ne _ _ d]
        exact W x hx
theorem e_goOn_true {f N : Nat → Nat × Nat} {h : Nat → Nat → Int32} (W0 : rW 76 77 f h) (W : rW 74 75 N h) {st k : Nat} (hs : st < 64) (hk : k < 2) (zf : wz (f st)) (hf : 0 < (f st).2) (b0 : (f st).1 ≤ 90) (zN : ∀ s, wz (N s)) (b1 : ∀ s, (N s).1 ≤ 100) (b2 : ∀ s, (N s).2 + (f st).2 ≤ 1073741824) : ∃ h', avE 1 158 [.ref 73, .int (nI st), .int (nI k)] (sX L t lt rt rp true h gl) (none, sX L t lt rt rp true h' gl) ∧ CF [74, 75] h h' ∧ rW 74 75 (fun s => if s = 2 * st % 64 then wA (N s) (f st) else if s = 2 * st % 64 + 1 ∧ k = 1 then wA (N s) (wH 1 (f st)) else N s) h' := by
  obtain ⟨e1, e2⟩ := W0 st hs
  obtain ⟨m1, m2⟩ := s_mv st hs
  unfold wz at zf
  have x1 : ((f st).1 - 1 + 1, (f st).2) = f st := Prod.ext (by show (f st).1 - 1 + 1 = (f st).1; omega) rfl
  have x2 : ((f st).1 - 1 + 1 + 1, (f st).2) = wH 1 (f st) := by
    unfold wH
    rw [if_neg (by omega)]
    exact Prod.ext (by show (f st).1 - 1 + 1 + 1 = (f st).1 + 1; omega) rfl
  obtain ⟨h1, C1, c1, W1⟩ := e_offer_true (L := L) (t := t) (lt := lt) (rt := rt) (rp := rp) (gl := gl) W (s := 2 * st % 64) (a := (f st).1 - 1) (by omega) (zN _) (b1 _) (b2 _) (by omega) hf
  rw [x1] at W1
  by_cases k1 : k = 1
  · have nq : (va_up N (2 * st % 64) (wA (N (2 * st % 64)) (f st))) (2 * st % 64 + 1) = N (2 * st % 64 + 1) := va_up_ne _ _ (by omega)
    obtain ⟨h2, C2, c2, W2⟩ := e_offer_true (L := L) (t := t) (lt := lt) (rt := rt) (rp := rp) (gl := gl) W1 (s := 2 * st % 64 + 1) (a := (f st).1 - 1 + 1) (by omega) (by rw [nq]; exact zN _) (by rw [nq]; exact b1 _) (by rw [nq]; exact b2 _) (by omega) hf
    rw [x2, nq] at W2
    refine ⟨h2, ?_, CF_trans c1 c2, rW_ext W2 (fun s hs => ?_) rfl rfl⟩
    · have y1 : h1 76 st = nI ((f st).1 - 1) := by rw [c1 76 rfl]; exact e1
      have y2 : h1 77 st = nI (f st).2 := by rw [c1 77 rfl]; exact e2
      show avA _ 158 0 [.ref 73, .int (nI (st)), .int (nI (k)), mvU] [] _ _
      refine a_iload_1 rfl rfl ?_
      refine a_iconst (v := (nI 1)) rfl rfl rfl ?_
      refine a_ishl rfl rfl ?_
      refine a_bipush (v := (nI 63)) rfl rfl rfl ?_
      refine a_iand rfl rfl ?_
      refine a_as (y := nI (2 * st % 64)) m1 ?_
      refine a_istore_3 rfl rfl rfl ?_
      refine a_aload_0 rfl rfl ?_
      refine a_iload_3 rfl rfl ?_
      refine a_aload_0 rfl rfl ?_
      refine a_getr rfl rfl rfl (fun _ _ _ => rfl) rfl ?_
      refine a_iload_1 rfl rfl ?_
      refine a_iald rfl rfl (Or.inl rfl) rfl (by omega) (by decide) ?_
      refine a_as (y := nI ((f st).1 - 1)) e1 ?_
      refine a_aload_0 rfl rfl ?_
      refine a_getr rfl rfl rfl (fun _ _ _ => rfl) rfl ?_
      refine a_iload_1 rfl rfl ?_
      refine a_iald rfl rfl (Or.inl rfl) rfl (by omega) (by decide) ?_
      refine a_as (y := nI ((f st).2)) e2 ?_
      refine a_virt0 rfl rfl (C1) (Nat.le_of_ble_eq_true rfl) ⟨rfl, rfl, rfl, rfl⟩ rfl rfl rfl (Nat.le_of_ble_eq_true rfl) rfl rfl ?_
      refine a_iload_2 rfl rfl ?_
      refine a_ifN_eq rfl rfl rfl (by omega) (fun c_25 => False.elim (by omega)) (fun _ => ?_)
      refine a_aload_0 rfl rfl ?_
      refine a_iload_3 rfl rfl ?_
      refine a_iconst (v := (nI 1)) rfl rfl rfl ?_
      refine a_ior rfl rfl ?_
      refine a_as (y := nI (2 * st % 64 + 1)) m2 ?_
      refine a_aload_0 rfl rfl ?_
      refine a_getr rfl rfl rfl (fun _ _ _ => rfl) rfl ?_
      refine a_iload_1 rfl rfl ?_
      refine a_iald rfl rfl (Or.inl rfl) rfl (by omega) (by decide) ?_
      refine a_as (y := nI ((f st).1 - 1)) y1 ?_
      refine a_iconst (v := (nI 1)) rfl rfl rfl ?_
      refine a_iaddN rfl rfl ?_
      refine a_aload_0 rfl rfl ?_
      refine a_getr rfl rfl rfl (fun _ _ _ => rfl) rfl ?_
      refine a_iload_1 rfl rfl ?_
      refine a_iald rfl rfl (Or.inl rfl) rfl (by omega) (by decide) ?_
      refine a_as (y := nI ((f st).2)) y2 ?_
      refine a_virt0 rfl rfl (C2) (Nat.le_of_ble_eq_true rfl) ⟨rfl, rfl, rfl, rfl⟩ rfl rfl rfl (Nat.le_of_ble_eq_true rfl) rfl rfl ?_
      exact a_vret rfl rfl
    · by_cases d : s = 2 * st % 64
      · rw [if_pos d, va_up_ne _ _ (by omega), d, va_up_self]
      · by_cases d2 : s = 2 * st % 64 + 1
        · rw [if_neg d, if_pos ⟨d2, k1⟩, d2, va_up_self]
        · rw [if_neg d, if_neg (fun x => d2 x.1), va_up_ne _ _ d2, va_up_ne _ _ d]
  · refine ⟨h1, ?_, c1, rW_ext W1 (fun s hs => ?_) rfl rfl⟩
    · show avA _ 158 0 [.ref 73, .int (nI (st)), .int (nI (k)), mvU] [] _ _
      refine a_iload_1 rfl rfl ?_
      refine a_iconst (v := (nI 1)) rfl rfl rfl ?_
      refine a_ishl rfl rfl ?_
      refine a_bipush (v := (nI 63)) rfl rfl rfl ?_
      refine a_iand rfl rfl ?_
      refine a_as (y := nI (2 * st % 64)) m1 ?_
      refine a_istore_3 rfl rfl rfl ?_
      refine a_aload_0 rfl rfl ?_
      refine a_iload_3 rfl rfl ?_
      refine a_aload_0 rfl rfl ?_
      refine a_getr rfl rfl rfl (fun _ _ _ => rfl) rfl ?_
      refine a_iload_1 rfl rfl ?_
      refine a_iald rfl rfl (Or.inl rfl) rfl (by omega) (by decide) ?_
      refine a_as (y := nI ((f st).1 - 1)) e1 ?_
      refine a_aload_0 rfl rfl ?_
      refine a_getr rfl rfl rfl (fun _ _ _ => rfl) rfl ?_
      refine a_iload_1 rfl rfl ?_
      refine a_iald rfl rfl (Or.inl rfl) rfl (by omega) (by decide) ?_
      refine a_as (y := nI ((f st).2)) e2 ?_
      refine a_virt0 rfl rfl (C1) (Nat.le_of_ble_eq_true rfl) ⟨rfl, rfl, rfl, rfl⟩ rfl rfl rfl (Nat.le_of_ble_eq_true rfl) rfl rfl ?_
      refine a_iload_2 rfl rfl ?_
      refine a_ifN_eq rfl rfl rfl (by omega) (fun _ => ?_) (fun c_25 => False.elim (by omega))
      exact a_vret rfl rfl
    · by_cases d : s = 2 * st % 64
      · rw [if_pos d, d, va_up_self]
      · rw [if_neg d, if_neg (fun x => k1 x.2), va_up_ne _ _ d]
theorem l_states_true (p : Nat → Bool) (c : Nat) (hc : c < 30) (m : Nat) : ∀ (st : Nat) (h : Nat → Nat → Int32), st + m = 64 → rW 76 77 (gS p c) h → rW 74 75 (pG (gS p c) (gOK p c) st) h → ∃ h', CF [74, 75] h h' ∧ rW 74 75 (gS p (c + 1)) h' ∧ ∀ r, avA 2 153 76 [.ref 73, .int (bsI 30 p), .int (nI c), .int (nI 64)] [] (sX L t lt rt rp true h' gl) r → avA 2 153 29 [.ref 73, .int (bsI 30 p), .int (nI c), .int (nI st)] [] (sX L t lt rt rp true h gl) r := by
  have z0 := gS_z p c
  have z1 : ∀ s, (gS p c s).1 ≤ 31 := fun s => Nat.le_trans (gS_1 p c s) (by omega)
  have z2 := gS_24 p (c := c) (by omega)
  induction m with
  | zero =>
    intro st h hst W0 W
    have e : st = 64 := by omega
    subst e
    refine ⟨h, CF_refl, rW_ext W (fun s hs => (pG_64 p c s hs).symm) rfl rfl, fun r Z => ?_⟩
    refine a_iload_3 rfl rfl ?_
    refine a_bipush (v := (nI 64)) rfl rfl rfl ?_
    refine a_cmpN_ge rfl rfl rfl (by omega) (by omega) (fun _ => ?_) (fun c_32 => absurd c_32 (by decide))
    exact Z
  | succ m ih =>
    intro st h hst W0 W
    have e2 := (W0 st (by omega)).2
    have zs := z0 st
    have b0 := z1 st
    have b2 := z2 st
    unfold wz at zs
    by_cases k0 : (gS p c st).2 = 0
    · have f0 : gS p c st = (0, 0) := Prod.ext (by show _ = 0; omega) k0
      obtain ⟨h', c', W', Z'⟩ := ih (st + 1) h (by omega) W0 (rW_ext W (fun s hs => by
        rw [pG_s (by omega) hs, f0]
        show (if _ then wA _ (0, 0) else if _ then wA _ (0, 0) else _) = _
        rw [wA_0]
        split <;> first | rfl | (split <;> rfl)) rfl rfl)
      refine ⟨h', c', W', fun r Z0 => ?_⟩
      have Z := Z' r Z0
      refine a_iload_3 rfl rfl ?_
      refine a_bipush (v := (nI 64)) rfl rfl rfl ?_
      refine a_cmpN_ge rfl rfl rfl (by omega) (by omega) (fun c_32 => False.elim (by omega)) (fun _ => ?_)
      refine a_aload_0 rfl rfl ?_
      refine a_getr rfl rfl rfl (fun _ _ _ => rfl) rfl ?_
      refine a_iload_3 rfl rfl ?_
      refine a_iald rfl rfl (Or.inl rfl) rfl (by omega) (by decide) ?_
      refine a_as (y := nI ((gS p c st).2)) e2 ?_
      refine a_ifN_le rfl rfl rfl (by omega) (fun _ => ?_) (fun c_41 => False.elim (by omega))
      refine a_iinc_3 rfl rfl (nI_inc _ _) rfl ?_
      refine a_goto rfl rfl ?_
      exact Z
    · have hx : tb (bsI 30 p) c = p c := by rw [tb_bs (by omega)]; simp [hc]
      have GO : ∀ k, k < 2 → (k = 1 ↔ (st < 32 ∧ gOK p c st = true)) → ∃ h1 h', avE 1 158 [.ref 73, .int (nI st), .int (nI k)] (sX L t lt rt rp true h gl) (none, sX L t lt rt rp true h1 gl) ∧ CF [74, 75] h h' ∧ rW 74 75 (gS p (c + 1)) h' ∧ ∀ r, avA 2 153 76 [.ref 73, .int (bsI 30 p), .int (nI c), .int (nI 64)] [] (sX L t lt rt rp true h' gl) r → avA 2 153 29 [.ref 73, .int (bsI 30 p), .int (nI c), .int (nI (st + 1))] [] (sX L t lt rt rp true h1 gl) r := by
        intro k hk ek
        obtain ⟨h1, C1, c1, W1⟩ := e_goOn_true (L := L) (t := t) (lt := lt) (rt := rt) (rp := rp) (gl := gl) W0 W (st := st) (k := k) (by omega) hk zs (by omega) (by omega) (pG_z z0 st) (fun s => Nat.le_trans (pG_1 z1 st s) (by omega)) (fun s => by have := pG_2 (ok := gOK p c) z2 st s; omega)
        obtain ⟨h', c', W', Z'⟩ := ih (st + 1) h1 (by omega) (rW_ext W0 (fun _ _ => rfl) (c1 76 rfl) (c1 77 rfl)) (rW_ext W1 (fun s hs => by
          rw [pG_s (by omega) hs]
          simp only [ek]) rfl rfl)
        exact ⟨h1, h', C1, CF_trans c1 c', W', Z'⟩
      by_cases y : st < 32 ∧ gOK p c st = true
      · obtain ⟨h1, h', C1, c', W', Z'⟩ := GO 1 (by omega) ⟨fun _ => y, fun _ => rfl⟩
        refine ⟨h', c', W', fun r Z0 => ?_⟩
        have Z := Z' r Z0
        have y2 := y.2
        unfold gOK at y2
        simp at y2
        refine a_iload_3 rfl rfl ?_
        refine a_bipush (v := (nI 64)) rfl rfl rfl ?_
        refine a_cmpN_ge rfl rfl rfl (by omega) (by omega) (fun c_32 => False.elim (by omega)) (fun _ => ?_)
        refine a_aload_0 rfl rfl ?_
        refine a_getr rfl rfl rfl (fun _ _ _ => rfl) rfl ?_
        refine a_iload_3 rfl rfl ?_
        refine a_iald rfl rfl (Or.inl rfl) rfl (by omega) (by decide) ?_
        refine a_as (y := nI ((gS p c st).2)) e2 ?_
        refine a_ifN_le rfl rfl rfl (by omega) (fun c_41 => False.elim (by omega)) (fun _ => ?_)
        refine a_aload_0 rfl rfl ?_
        refine a_iload_3 rfl rfl ?_
        refine a_iload_1 rfl rfl ?_
        refine a_iload_2 rfl rfl ?_
        refine a_statI rfl rfl (e_has _ _ (by omega)) (Nat.le_of_ble_eq_true rfl) ⟨rfl, rfl, rfl⟩ rfl rfl rfl (Nat.le_of_ble_eq_true rfl) rfl ?_
        refine a_ifb_eq rfl rfl rfl (fun c_51 => by first | exact absurd c_51 (not_not_intro (hx.trans y2.1)) | exact absurd (not_not_intro (hx.trans y2.1)) c_51) (fun _ => ?_)
        refine a_iload_3 rfl rfl ?_
        refine a_iload_2 rfl rfl ?_
        refine a_statI rfl rfl (e_mayTake st c (by omega) hc) (Nat.le_of_ble_eq_true rfl) ⟨rfl, rfl, rfl⟩ rfl rfl rfl (Nat.le_of_ble_eq_true rfl) rfl ?_
        refine a_ifb_eq rfl rfl rfl (fun c_59 => False.elim (by omega)) (fun _ => ?_)
        refine a_iconst (v := (nI 1)) rfl rfl rfl ?_
        refine a_goto rfl rfl ?_
        refine a_virt0 rfl rfl (C1) (Nat.le_of_ble_eq_true rfl) ⟨rfl, rfl, rfl, rfl⟩ rfl rfl rfl (Nat.le_of_ble_eq_true rfl) rfl rfl ?_
        refine a_iinc_3 rfl rfl (nI_inc _ _) rfl ?_
        refine a_goto rfl rfl ?_
        exact Z
      · obtain ⟨h1, h', C1, c', W', Z'⟩ := GO 0 (by omega) ⟨fun a => absurd a (by omega), fun a => absurd a y⟩
        refine ⟨h', c', W', fun r Z0 => ?_⟩
        have Z := Z' r Z0
        refine a_iload_3 rfl rfl ?_
        refine a_bipush (v := (nI 64)) rfl rfl rfl ?_
        refine a_cmpN_ge rfl rfl rfl (by omega) (by omega) (fun c_32 => False.elim (by omega)) (fun _ => ?_)
        refine a_aload_0 rfl rfl ?_
        refine a_getr rfl rfl rfl (fun _ _ _ => rfl) rfl ?_
        refine a_iload_3 rfl rfl ?_
        refine a_iald rfl rfl (Or.inl rfl) rfl (by omega) (by decide) ?_
        refine a_as (y := nI ((gS p c st).2)) e2 ?_
        refine a_ifN_le rfl rfl rfl (by omega) (fun c_41 => False.elim (by omega)) (fun _ => ?_)
        refine a_aload_0 rfl rfl ?_
        refine a_iload_3 rfl rfl ?_
        refine a_iload_1 rfl rfl ?_
        refine a_iload_2 rfl rfl ?_
        refine a_statI rfl rfl (e_has _ _ (by omega)) (Nat.le_of_ble_eq_true rfl) ⟨rfl, rfl, rfl⟩ rfl rfl rfl (Nat.le_of_ble_eq_true rfl) rfl ?_
        refine a_ifb_eq rfl rfl rfl (fun c_51 => ?_) (fun c_51 => ?_)
        · refine a_iconst (v := (nI 0)) rfl rfl rfl ?_
          refine a_virt0 rfl rfl (C1) (Nat.le_of_ble_eq_true rfl) ⟨rfl, rfl, rfl, rfl⟩ rfl rfl rfl (Nat.le_of_ble_eq_true rfl) rfl rfl ?_
          refine a_iinc_3 rfl rfl (nI_inc _ _) rfl ?_
          refine a_goto rfl rfl ?_
          exact Z
        · refine a_iload_3 rfl rfl ?_
          refine a_iload_2 rfl rfl ?_
          refine a_statI rfl rfl (e_mayTake st c (by omega) hc) (Nat.le_of_ble_eq_true rfl) ⟨rfl, rfl, rfl⟩ rfl rfl rfl (Nat.le_of_ble_eq_true rfl) rfl ?_
          refine a_ifb_eq rfl rfl rfl (fun _ => ?_) (fun c_59 => by first | exact absurd (fun a => y ⟨a.2, by unfold gOK; rw [← hx, c_51]; simp; omega⟩) c_59 | exact absurd c_59 (fun a => y ⟨a.2, by unfold gOK; rw [← hx, c_51]; simp; omega⟩))
          refine a_iconst (v := (nI 0)) rfl rfl rfl ?_
          refine a_virt0 rfl rfl (C1) (Nat.le_of_ble_eq_true rfl) ⟨rfl, rfl, rfl, rfl⟩ rfl rfl rfl (Nat.le_of_ble_eq_true rfl) rfl rfl ?_
          refine a_iinc_3 rfl rfl (nI_inc _ _) rfl ?_
          refine a_goto rfl rfl ?_
          exact Z
theorem l_coll_true (f : Nat → Nat × Nat) (z0 : ∀ s, wz (f s)) (z1 : ∀ s, (f s).1 ≤ 31) (z2 : ∀ s, (f s).2 ≤ 16777216) (m : Nat) : ∀ (i : Nat) (h : Nat → Nat → Int32), i + m = 64 → rW 76 77 f h → rW 74 75 (fun s => if s = 0 then wP f i else (0, 0)) h → ∃ h', avA 1 159 6 [.ref 73, .int (nI i)] [] (sX L t lt rt rp true h gl) (none, sX L t lt rt rp true h' gl) ∧ CF [73, 74, 75] h h' ∧ h' 73 4 = nI ((wP f 64).1 - 1) ∧ h' 73 5 = nI (wP f 64).2 := by
  induction m with
  | zero =>
    intro i h hi W0 W
    have e : i = 64 := by omega
    subst e
    obtain ⟨w1, w2⟩ := W 0 (by omega)
    refine ⟨mvPut (mvPut h 73 4 (h 74 0)) 73 5 (h 75 0), ?_, CF_put (CF_put CF_refl rfl) rfl, ?_, ?_⟩
    · refine a_iload_1 rfl rfl ?_
      refine a_bipush (v := (nI 64)) rfl rfl rfl ?_
      refine a_cmpN_ge rfl rfl rfl (by omega) (by omega) (fun _ => ?_) (fun c_9 => absurd c_9 (by decide))
      refine a_aload_0 rfl rfl ?_
      refine a_aload_0 rfl rfl ?_
      refine a_getr rfl rfl rfl (fun _ _ _ => rfl) rfl ?_
      refine a_iconst (v := (nI 0)) rfl rfl rfl ?_
      refine a_iald rfl rfl (Or.inl rfl) rfl (by omega) (by decide) ?_
      refine a_puti rfl rfl rfl rfl ?_
      refine a_aload_0 rfl rfl ?_
      refine a_aload_0 rfl rfl ?_
      refine a_getr rfl rfl rfl (fun _ _ _ => rfl) rfl ?_
      refine a_iconst (v := (nI 0)) rfl rfl rfl ?_
      refine a_iald rfl rfl (Or.inl rfl) rfl (by omega) (by decide) ?_
      refine a_puti rfl rfl rfl rfl ?_
      exact a_vret rfl rfl
    · rw [put_at, put_at]; exact w1
    · rw [put_at]; exact w2
  | succ m ih =>
    intro i h hi W0 W
    obtain ⟨e1, e2⟩ := W0 i (by omega)
    have zs := z0 i
    have b1 := z1 i
    have b2 := z2 i
    unfold wz at zs
    by_cases k0 : (f i).2 = 0
    · have f0 : f i = (0, 0) := Prod.ext (by show _ = 0; omega) k0
      obtain ⟨h', Z, c, H⟩ := ih (i + 1) h (by omega) W0 (rW_ext W (fun s hs => by rw [wP, f0, wA_0]) rfl rfl)
      refine ⟨h', ?_, c, H⟩
      refine a_iload_1 rfl rfl ?_
      refine a_bipush (v := (nI 64)) rfl rfl rfl ?_
      refine a_cmpN_ge rfl rfl rfl (by omega) (by omega) (fun c_9 => False.elim (by omega)) (fun _ => ?_)
      refine a_aload_0 rfl rfl ?_
      refine a_getr rfl rfl rfl (fun _ _ _ => rfl) rfl ?_
      refine a_iload_1 rfl rfl ?_
      refine a_iald rfl rfl (Or.inl rfl) rfl (by omega) (by decide) ?_
      refine a_as (y := nI ((f i).2)) e2 ?_
      refine a_ifN_le rfl rfl rfl (by omega) (fun _ => ?_) (fun c_18 => False.elim (by omega))
      refine a_iinc_1 rfl rfl (nI_inc _ _) rfl ?_
      refine a_goto rfl rfl ?_
      exact Z
    · have x1 : ((f i).1 - 1 + 1, (f i).2) = f i := Prod.ext (by show (f i).1 - 1 + 1 = (f i).1; omega) rfl
      have p1 := wP_1 (F := f) (n := i) (fun k _ => z1 k)
      have p2 := wP_2 (F := f) (n := i) (fun k _ => z2 k)
      obtain ⟨h1, C1, c1, W1⟩ := e_offer_true (L := L) (t := t) (lt := lt) (rt := rt) (rp := rp) (gl := gl) W (s := 0) (a := (f i).1 - 1) (w := (f i).2) (by omega) (wz_P (fun k _ => z0 k)) (by show (wP f i).1 ≤ 100; omega) (by show (wP f i).2 + (f i).2 ≤ _; omega) (by omega) (by omega)
      rw [x1] at W1
      obtain ⟨h', Z, c, H⟩ := ih (i + 1) h1 (by omega) (rW_ext W0 (fun _ _ => rfl) (c1 76 rfl) (c1 77 rfl)) (rW_ext W1 (fun s hs => by
        by_cases d : s = 0
        · subst d; rw [va_up_self]; rfl
        · rw [va_up_ne _ _ d, if_neg d, if_neg d]) rfl rfl)
      refine ⟨h', ?_, CF_trans (CF_mono (by decide) c1) c, H⟩
      refine a_iload_1 rfl rfl ?_
      refine a_bipush (v := (nI 64)) rfl rfl rfl ?_
      refine a_cmpN_ge rfl rfl rfl (by omega) (by omega) (fun c_9 => False.elim (by omega)) (fun _ => ?_)
      refine a_aload_0 rfl rfl ?_
      refine a_getr rfl rfl rfl (fun _ _ _ => rfl) rfl ?_
      refine a_iload_1 rfl rfl ?_
      refine a_iald rfl rfl (Or.inl rfl) rfl (by omega) (by decide) ?_
      refine a_as (y := nI ((f i).2)) e2 ?_
      refine a_ifN_le rfl rfl rfl (by omega) (fun c_18 => False.elim (by omega)) (fun _ => ?_)
      refine a_aload_0 rfl rfl ?_
      refine a_iconst (v := (nI 0)) rfl rfl rfl ?_
      refine a_aload_0 rfl rfl ?_
      refine a_getr rfl rfl rfl (fun _ _ _ => rfl) rfl ?_
      refine a_iload_1 rfl rfl ?_
      refine a_iald rfl rfl (Or.inl rfl) rfl (by omega) (by decide) ?_
      refine a_as (y := nI ((f i).1 - 1)) e1 ?_
      refine a_aload_0 rfl rfl ?_
      refine a_getr rfl rfl rfl (fun _ _ _ => rfl) rfl ?_
      refine a_iload_1 rfl rfl ?_
      refine a_iald rfl rfl (Or.inl rfl) rfl (by omega) (by decide) ?_
      refine a_as (y := nI ((f i).2)) e2 ?_
      refine a_virt0 rfl rfl (C1) (Nat.le_of_ble_eq_true rfl) ⟨rfl, rfl, rfl, rfl⟩ rfl rfl rfl (Nat.le_of_ble_eq_true rfl) rfl rfl ?_
      refine a_iinc_1 rfl rfl (nI_inc _ _) rfl ?_
      refine a_goto rfl rfl ?_
      exact Z
theorem e_collect_true (f : Nat → Nat × Nat) (z0 : ∀ s, wz (f s)) (z1 : ∀ s, (f s).1 ≤ 31) (z2 : ∀ s, (f s).2 ≤ 16777216) {h : Nat → Nat → Int32} (W0 : rW 76 77 f h) : ∃ h', avE 1 159 [.ref 73] (sX L t lt rt rp true h gl) (none, sX L t lt rt rp true h' gl) ∧ CF [73, 74, 75] h h' ∧ h' 73 4 = nI ((wP f 64).1 - 1) ∧ h' 73 5 = nI (wP f 64).2 := by
  obtain ⟨h1, C1, c1, W1⟩ := e_clear_true (L := L) (t := t) (lt := lt) (rt := rt) (rp := rp) (gl := gl) (h := h)
  obtain ⟨h', Z, c, H⟩ := l_coll_true (L := L) (t := t) (lt := lt) (rt := rt) (rp := rp) (gl := gl) f z0 z1 z2 64 0 h1 rfl (rW_ext W0 (fun _ _ => rfl) (c1 76 rfl) (c1 77 rfl)) (rW_ext W1 (fun s _ => by show (if s = 0 then (0, 0) else (0, 0)) = _; split <;> rfl) rfl rfl)
  refine ⟨h', ?_, CF_trans (CF_mono (by decide) c1) c, H⟩
  show avA _ 159 0 [.ref 73, mvU] [] _ _
  refine a_aload_0 rfl rfl ?_
  refine a_virt0 rfl rfl (C1) (Nat.le_of_ble_eq_true rfl) ⟨rfl, rfl, rfl, rfl⟩ rfl rfl rfl (Nat.le_of_ble_eq_true rfl) rfl rfl ?_
  refine a_iconst (v := (nI 0)) rfl rfl rfl ?_
  refine a_istore_1 rfl rfl rfl ?_
  exact Z
end SE
