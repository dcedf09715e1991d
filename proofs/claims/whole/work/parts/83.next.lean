/-! THE NEXT TOKEN: letters, signs, the whole -/
theorem putL_at {h : Nat → Nat → Int64} {o k : Nat} {v : Int64} (p j : Nat) : mvPut h o k v p j = if p = o ∧ j = k then v else h p j := by
  unfold mvPut va_up
  by_cases c : p = o
  · subst c
    by_cases d : j = k <;> simp [d]
  · simp [c]
theorem wst_b {v c : Nat} (hc : c < 256) : wst v c ≤ 1152921504606846976 := by
  unfold wst
  split
  · omega
  · rename_i q
    have q' : v / 281474976710656 = 0 := by omega
    omega
theorem wv_b {b : Nat → Nat} {p : Nat} (n : Nat) (hb : ∀ i, i < n → b (p + i) < 256) : wv b p n ≤ 1152921504606846976 := by
  cases n with
  | zero => exact Nat.zero_le _
  | succ n => exact wst_b (hb n (by omega))
section NY
variable {L t : Nat} {lt rt rp : Option Nat} {sw : Bool} {b : Nat → Nat} {k : Nat}
theorem l_lets (p : Nat) (y : Value) (m : Nat) : ∀ (q : Nat) (h : Nat → Nat → Int32) (gl : Nat → Nat → Int64), k ≤ q + m → q ≤ k → p ≤ q → RP b k h → h 81 7 = nI q → gl 81 11 = lN (wv b p (q - p)) → ∃ h' gl', F81 h h' ∧ h' 81 7 = nI (rn isL b k q) ∧ h' 81 8 = h 81 8 ∧ h' 81 9 = h 81 9 ∧ gl' 81 11 = lN (wv b p (rn isL b k q - p)) ∧ avA 1 198 168 [.ref 81, y] [] (sX L t lt rt rp sw h gl) (none, sX L t lt rt rp sw h' gl') := by
  have EN : ∀ (q : Nat) (h : Nat → Nat → Int32) (gl : Nat → Nat → Int64), q = k → RP b k h → h 81 7 = nI q → gl 81 11 = lN (wv b p (q - p)) → ∃ h' gl', F81 h h' ∧ h' 81 7 = nI (rn isL b k q) ∧ h' 81 8 = h 81 8 ∧ h' 81 9 = h 81 9 ∧ gl' 81 11 = lN (wv b p (rn isL b k q - p)) ∧ avA 1 198 168 [.ref 81, y] [] (sX L t lt rt rp sw h gl) (none, sX L t lt rt rp sw h' gl') := by
    intro q h gl e H h7 g
    have hk := H.2.1
    have er : rn isL b k q = q := rn_e (fun a => by omega)
    refine ⟨h, gl, F81_r, by rw [er]; exact h7, rfl, rfl, by rw [er]; exact g, ?_⟩
    refine a_aload_0 rfl rfl ?_
    refine a_aload_0 rfl rfl ?_
    refine a_geti rfl rfl rfl (fun _ _ _ => rfl) ?_
    refine a_as (y := nI (q)) h7 ?_
    refine a_virtI rfl rfl (r_byF H (by omega) (by omega)) (Nat.le_of_ble_eq_true rfl) ⟨rfl, rfl, rfl, rfl⟩ rfl rfl rfl (Nat.le_of_ble_eq_true rfl) rfl rfl ?_
    refine a_statI rfl rfl (r_isLetM) (Nat.le_of_ble_eq_true rfl) ⟨rfl, rfl, rfl⟩ rfl rfl rfl (Nat.le_of_ble_eq_true rfl) rfl ?_
    refine a_ifb_eq rfl rfl rfl (fun _ => ?_) (fun c_179 => by first | exact absurd id c_179 | exact absurd c_179 id)
    exact a_vret rfl rfl
  induction m with
  | zero => intro q h gl hm hq hp H h7 g; exact EN q h gl (by omega) H h7 g
  | succ m ih =>
    intro q h gl hm hq hp H h7 g
    have hk := H.2.1
    by_cases c0 : q < k
    · obtain ⟨e1, l1⟩ := H.2.2 q c0
      by_cases c : isL (b q) = true
      · have wb : wv b p (q - p) ≤ 1152921504606846976 := wv_b _ (fun i hi => (H.2.2 (p + i) (by omega)).2)
        have ws : wv b p (q + 1 - p) = wst (wv b p (q - p)) (b q) := by rw [show q + 1 - p = (q - p) + 1 by omega, wv, show p + (q - p) = q by omega]
        obtain ⟨h', gl', a1, a2, a3, a4, a5, Z⟩ := ih (q + 1) (mvPut h 81 7 (nI (q + 1))) (mvPut gl 81 11 (lN (wst (wv b p (q - p)) (b q)))) (by omega) (by omega) (by omega) (RP_f H (F81_p (by omega))) (by rw [put_at]; simp) (by rw [putL_at, ws]; simp)
        refine ⟨h', gl', F81_t (F81_p (by omega)) a1, by rw [rn_s ⟨c0, c⟩]; exact a2, by rw [a3, put_at]; simp, by rw [a4, put_at]; simp, by rw [rn_s ⟨c0, c⟩]; exact a5, ?_⟩
        by_cases d : wv b p (q - p) / 281474976710656 = 0
        · have ew : wst (wv b p (q - p)) (b q) = wv b p (q - p) * 256 + b q := by unfold wst; rw [if_neg (by omega)]
          rw [ew] at Z
          refine a_aload_0 rfl rfl ?_
          refine a_aload_0 rfl rfl ?_
          refine a_geti rfl rfl rfl (fun _ _ _ => rfl) ?_
          refine a_as (y := nI (q)) h7 ?_
          refine a_virtI rfl rfl (r_byT H c0) (Nat.le_of_ble_eq_true rfl) ⟨rfl, rfl, rfl, rfl⟩ rfl rfl rfl (Nat.le_of_ble_eq_true rfl) rfl rfl ?_
          refine a_statI rfl rfl (r_isLet (b q) l1) (Nat.le_of_ble_eq_true rfl) ⟨rfl, rfl, rfl⟩ rfl rfl rfl (Nat.le_of_ble_eq_true rfl) rfl ?_
          refine a_ifb_eq rfl rfl rfl (fun c_179 => by first | exact absurd c_179 (not_not_intro c) | exact absurd (not_not_intro c) c_179) (fun _ => ?_)
          refine a_aload_0 rfl rfl ?_
          refine a_aload_0 rfl rfl ?_
          refine a_getl rfl rfl rfl (fun _ _ _ => rfl) ?_
          refine a_asL (y := lN (wv b p (q - p))) g ?_
          refine a_bipush (v := (nI 48)) rfl rfl rfl ?_
          refine a_lshr rfl rfl ?_
          refine a_asL (y := lN (wv b p (q - p) / 281474976710656)) (l_shr48 _ (by omega)) ?_
          refine a_lconst (v := lN 0) rfl rfl rfl ?_
          refine a_lcmp rfl rfl ?_
          refine a_lc_eq rfl rfl rfl (pk_lT (by omega)) (pk_lT (by omega)) (fun _ => ?_) (fun c_192 => False.elim (by omega))
          refine a_aload_0 rfl rfl ?_
          refine a_getl rfl rfl rfl (fun _ _ _ => rfl) ?_
          refine a_asL (y := lN (wv b p (q - p))) g ?_
          refine a_bipush (v := (nI 8)) rfl rfl rfl ?_
          refine a_lshl rfl rfl ?_
          refine a_asL (y := lN (wv b p (q - p) * 256)) (l_shl8 _) ?_
          refine a_aload_0 rfl rfl ?_
          refine a_aload_0 rfl rfl ?_
          refine a_geti rfl rfl rfl (fun _ _ _ => rfl) ?_
          refine a_as (y := nI (q)) h7 ?_
          refine a_virtI rfl rfl (r_byT H c0) (Nat.le_of_ble_eq_true rfl) ⟨rfl, rfl, rfl, rfl⟩ rfl rfl rfl (Nat.le_of_ble_eq_true rfl) rfl rfl ?_
          refine a_i2lN rfl rfl (by omega) ?_
          refine a_lor rfl rfl ?_
          refine a_asL (y := lN (wv b p (q - p) * 256 + b q)) (l_or8 _ _ l1) ?_
          refine a_putl rfl rfl rfl rfl ?_
          refine a_aload_0 rfl rfl ?_
          refine a_dup rfl rfl rfl ?_
          refine a_geti rfl rfl rfl (fun _ _ _ => rfl) ?_
          refine a_as (y := nI (q)) h7 ?_
          refine a_iconst (v := (nI 1)) rfl rfl rfl ?_
          refine a_iaddN rfl rfl ?_
          refine a_puti rfl rfl rfl rfl ?_
          refine a_goto rfl rfl ?_
          exact Z
        · have ew : wst (wv b p (q - p)) (b q) = 1152921504606846976 := by unfold wst; rw [if_pos (by omega)]
          rw [ew] at Z
          refine a_aload_0 rfl rfl ?_
          refine a_aload_0 rfl rfl ?_
          refine a_geti rfl rfl rfl (fun _ _ _ => rfl) ?_
          refine a_as (y := nI (q)) h7 ?_
          refine a_virtI rfl rfl (r_byT H c0) (Nat.le_of_ble_eq_true rfl) ⟨rfl, rfl, rfl, rfl⟩ rfl rfl rfl (Nat.le_of_ble_eq_true rfl) rfl rfl ?_
          refine a_statI rfl rfl (r_isLet (b q) l1) (Nat.le_of_ble_eq_true rfl) ⟨rfl, rfl, rfl⟩ rfl rfl rfl (Nat.le_of_ble_eq_true rfl) rfl ?_
          refine a_ifb_eq rfl rfl rfl (fun c_179 => by first | exact absurd c_179 (not_not_intro c) | exact absurd (not_not_intro c) c_179) (fun _ => ?_)
          refine a_aload_0 rfl rfl ?_
          refine a_aload_0 rfl rfl ?_
          refine a_getl rfl rfl rfl (fun _ _ _ => rfl) ?_
          refine a_asL (y := lN (wv b p (q - p))) g ?_
          refine a_bipush (v := (nI 48)) rfl rfl rfl ?_
          refine a_lshr rfl rfl ?_
          refine a_asL (y := lN (wv b p (q - p) / 281474976710656)) (l_shr48 _ (by omega)) ?_
          refine a_lconst (v := lN 0) rfl rfl rfl ?_
          refine a_lcmp rfl rfl ?_
          refine a_lc_eq rfl rfl rfl (pk_lT (by omega)) (pk_lT (by omega)) (fun c_192 => False.elim (by omega)) (fun _ => ?_)
          refine a_ldc2 (v := lN 1152921504606846976) rfl rfl rfl ?_
          refine a_goto rfl rfl ?_
          refine a_putl rfl rfl rfl rfl ?_
          refine a_aload_0 rfl rfl ?_
          refine a_dup rfl rfl rfl ?_
          refine a_geti rfl rfl rfl (fun _ _ _ => rfl) ?_
          refine a_as (y := nI (q)) h7 ?_
          refine a_iconst (v := (nI 1)) rfl rfl rfl ?_
          refine a_iaddN rfl rfl ?_
          refine a_puti rfl rfl rfl rfl ?_
          refine a_goto rfl rfl ?_
          exact Z
      · have er : rn isL b k q = q := rn_e (fun a => c a.2)
        refine ⟨h, gl, F81_r, by rw [er]; exact h7, rfl, rfl, by rw [er]; exact g, ?_⟩
        refine a_aload_0 rfl rfl ?_
        refine a_aload_0 rfl rfl ?_
        refine a_geti rfl rfl rfl (fun _ _ _ => rfl) ?_
        refine a_as (y := nI (q)) h7 ?_
        refine a_virtI rfl rfl (r_byT H c0) (Nat.le_of_ble_eq_true rfl) ⟨rfl, rfl, rfl, rfl⟩ rfl rfl rfl (Nat.le_of_ble_eq_true rfl) rfl rfl ?_
        refine a_statI rfl rfl (r_isLet (b q) l1) (Nat.le_of_ble_eq_true rfl) ⟨rfl, rfl, rfl⟩ rfl rfl rfl (Nat.le_of_ble_eq_true rfl) rfl ?_
        refine a_ifb_eq rfl rfl rfl (fun _ => ?_) (fun c_179 => by first | exact absurd c c_179 | exact absurd c_179 c)
        exact a_vret rfl rfl
    · exact EN q h gl (by omega) H h7 g
theorem sg_out : ∀ c, c < 256 → (c < 35 ∨ 62 < c) → sgC c = 47 := by decide +kernel
theorem r_isSign_35 {σ : mvSt} : avE 0 202 [.int (nI 35)] σ (some (.int (bI (sgC 35 ≠ 47 ∨ 35 = 58))), σ) := by
  show avA _ 202 0 [.int (nI 35)] [] _ _
  refine a_iload_0 rfl rfl ?_
  refine a_tabIn rfl (by decide) rfl rfl ?_
  refine a_iconst (v := (nI 1)) rfl rfl rfl ?_
  refine av_to (a_zret rfl rfl (Or.inr rfl)) (bz1 ?_)
  decide
theorem r_isSign_36 {σ : mvSt} : avE 0 202 [.int (nI 36)] σ (some (.int (bI (sgC 36 ≠ 47 ∨ 36 = 58))), σ) := by
  show avA _ 202 0 [.int (nI 36)] [] _ _
  refine a_iload_0 rfl rfl ?_
  refine a_tabIn rfl (by decide) rfl rfl ?_
  refine a_iconst (v := (nI 0)) rfl rfl rfl ?_
  refine av_to (a_zret rfl rfl (Or.inl rfl)) (bz0 ?_)
  decide
theorem r_isSign_37 {σ : mvSt} : avE 0 202 [.int (nI 37)] σ (some (.int (bI (sgC 37 ≠ 47 ∨ 37 = 58))), σ) := by
  show avA _ 202 0 [.int (nI 37)] [] _ _
  refine a_iload_0 rfl rfl ?_
  refine a_tabIn rfl (by decide) rfl rfl ?_
  refine a_iconst (v := (nI 0)) rfl rfl rfl ?_
  refine av_to (a_zret rfl rfl (Or.inl rfl)) (bz0 ?_)
  decide
theorem r_isSign_38 {σ : mvSt} : avE 0 202 [.int (nI 38)] σ (some (.int (bI (sgC 38 ≠ 47 ∨ 38 = 58))), σ) := by
  show avA _ 202 0 [.int (nI 38)] [] _ _
  refine a_iload_0 rfl rfl ?_
  refine a_tabIn rfl (by decide) rfl rfl ?_
  refine a_iconst (v := (nI 0)) rfl rfl rfl ?_
  refine av_to (a_zret rfl rfl (Or.inl rfl)) (bz0 ?_)
  decide
theorem r_isSign_39 {σ : mvSt} : avE 0 202 [.int (nI 39)] σ (some (.int (bI (sgC 39 ≠ 47 ∨ 39 = 58))), σ) := by
  show avA _ 202 0 [.int (nI 39)] [] _ _
  refine a_iload_0 rfl rfl ?_
  refine a_tabIn rfl (by decide) rfl rfl ?_
  refine a_iconst (v := (nI 0)) rfl rfl rfl ?_
  refine av_to (a_zret rfl rfl (Or.inl rfl)) (bz0 ?_)
  decide
theorem r_isSign_40 {σ : mvSt} : avE 0 202 [.int (nI 40)] σ (some (.int (bI (sgC 40 ≠ 47 ∨ 40 = 58))), σ) := by
  show avA _ 202 0 [.int (nI 40)] [] _ _
  refine a_iload_0 rfl rfl ?_
  refine a_tabIn rfl (by decide) rfl rfl ?_
  refine a_iconst (v := (nI 1)) rfl rfl rfl ?_
  refine av_to (a_zret rfl rfl (Or.inr rfl)) (bz1 ?_)
  decide
theorem r_isSign_41 {σ : mvSt} : avE 0 202 [.int (nI 41)] σ (some (.int (bI (sgC 41 ≠ 47 ∨ 41 = 58))), σ) := by
  show avA _ 202 0 [.int (nI 41)] [] _ _
  refine a_iload_0 rfl rfl ?_
  refine a_tabIn rfl (by decide) rfl rfl ?_
  refine a_iconst (v := (nI 1)) rfl rfl rfl ?_
  refine av_to (a_zret rfl rfl (Or.inr rfl)) (bz1 ?_)
  decide
theorem r_isSign_42 {σ : mvSt} : avE 0 202 [.int (nI 42)] σ (some (.int (bI (sgC 42 ≠ 47 ∨ 42 = 58))), σ) := by
  show avA _ 202 0 [.int (nI 42)] [] _ _
  refine a_iload_0 rfl rfl ?_
  refine a_tabIn rfl (by decide) rfl rfl ?_
  refine a_iconst (v := (nI 1)) rfl rfl rfl ?_
  refine av_to (a_zret rfl rfl (Or.inr rfl)) (bz1 ?_)
  decide
theorem r_isSign_43 {σ : mvSt} : avE 0 202 [.int (nI 43)] σ (some (.int (bI (sgC 43 ≠ 47 ∨ 43 = 58))), σ) := by
  show avA _ 202 0 [.int (nI 43)] [] _ _
  refine a_iload_0 rfl rfl ?_
  refine a_tabIn rfl (by decide) rfl rfl ?_
  refine a_iconst (v := (nI 1)) rfl rfl rfl ?_
  refine av_to (a_zret rfl rfl (Or.inr rfl)) (bz1 ?_)
  decide
theorem r_isSign_44 {σ : mvSt} : avE 0 202 [.int (nI 44)] σ (some (.int (bI (sgC 44 ≠ 47 ∨ 44 = 58))), σ) := by
  show avA _ 202 0 [.int (nI 44)] [] _ _
  refine a_iload_0 rfl rfl ?_
  refine a_tabIn rfl (by decide) rfl rfl ?_
  refine a_iconst (v := (nI 0)) rfl rfl rfl ?_
  refine av_to (a_zret rfl rfl (Or.inl rfl)) (bz0 ?_)
  decide
theorem r_isSign_45 {σ : mvSt} : avE 0 202 [.int (nI 45)] σ (some (.int (bI (sgC 45 ≠ 47 ∨ 45 = 58))), σ) := by
  show avA _ 202 0 [.int (nI 45)] [] _ _
  refine a_iload_0 rfl rfl ?_
  refine a_tabIn rfl (by decide) rfl rfl ?_
  refine a_iconst (v := (nI 1)) rfl rfl rfl ?_
  refine av_to (a_zret rfl rfl (Or.inr rfl)) (bz1 ?_)
  decide
theorem r_isSign_46 {σ : mvSt} : avE 0 202 [.int (nI 46)] σ (some (.int (bI (sgC 46 ≠ 47 ∨ 46 = 58))), σ) := by
  show avA _ 202 0 [.int (nI 46)] [] _ _
  refine a_iload_0 rfl rfl ?_
  refine a_tabIn rfl (by decide) rfl rfl ?_
  refine a_iconst (v := (nI 0)) rfl rfl rfl ?_
  refine av_to (a_zret rfl rfl (Or.inl rfl)) (bz0 ?_)
  decide
theorem r_isSign_47 {σ : mvSt} : avE 0 202 [.int (nI 47)] σ (some (.int (bI (sgC 47 ≠ 47 ∨ 47 = 58))), σ) := by
  show avA _ 202 0 [.int (nI 47)] [] _ _
  refine a_iload_0 rfl rfl ?_
  refine a_tabIn rfl (by decide) rfl rfl ?_
  refine a_iconst (v := (nI 1)) rfl rfl rfl ?_
  refine av_to (a_zret rfl rfl (Or.inr rfl)) (bz1 ?_)
  decide
theorem r_isSign_48 {σ : mvSt} : avE 0 202 [.int (nI 48)] σ (some (.int (bI (sgC 48 ≠ 47 ∨ 48 = 58))), σ) := by
  show avA _ 202 0 [.int (nI 48)] [] _ _
  refine a_iload_0 rfl rfl ?_
  refine a_tabIn rfl (by decide) rfl rfl ?_
  refine a_iconst (v := (nI 0)) rfl rfl rfl ?_
  refine av_to (a_zret rfl rfl (Or.inl rfl)) (bz0 ?_)
  decide
theorem r_isSign_49 {σ : mvSt} : avE 0 202 [.int (nI 49)] σ (some (.int (bI (sgC 49 ≠ 47 ∨ 49 = 58))), σ) := by
  show avA _ 202 0 [.int (nI 49)] [] _ _
  refine a_iload_0 rfl rfl ?_
  refine a_tabIn rfl (by decide) rfl rfl ?_
  refine a_iconst (v := (nI 0)) rfl rfl rfl ?_
  refine av_to (a_zret rfl rfl (Or.inl rfl)) (bz0 ?_)
  decide
theorem r_isSign_50 {σ : mvSt} : avE 0 202 [.int (nI 50)] σ (some (.int (bI (sgC 50 ≠ 47 ∨ 50 = 58))), σ) := by
  show avA _ 202 0 [.int (nI 50)] [] _ _
  refine a_iload_0 rfl rfl ?_
  refine a_tabIn rfl (by decide) rfl rfl ?_
  refine a_iconst (v := (nI 0)) rfl rfl rfl ?_
  refine av_to (a_zret rfl rfl (Or.inl rfl)) (bz0 ?_)
  decide
theorem r_isSign_51 {σ : mvSt} : avE 0 202 [.int (nI 51)] σ (some (.int (bI (sgC 51 ≠ 47 ∨ 51 = 58))), σ) := by
  show avA _ 202 0 [.int (nI 51)] [] _ _
  refine a_iload_0 rfl rfl ?_
  refine a_tabIn rfl (by decide) rfl rfl ?_
  refine a_iconst (v := (nI 0)) rfl rfl rfl ?_
  refine av_to (a_zret rfl rfl (Or.inl rfl)) (bz0 ?_)
  decide
theorem r_isSign_52 {σ : mvSt} : avE 0 202 [.int (nI 52)] σ (some (.int (bI (sgC 52 ≠ 47 ∨ 52 = 58))), σ) := by
  show avA _ 202 0 [.int (nI 52)] [] _ _
  refine a_iload_0 rfl rfl ?_
  refine a_tabIn rfl (by decide) rfl rfl ?_
  refine a_iconst (v := (nI 0)) rfl rfl rfl ?_
  refine av_to (a_zret rfl rfl (Or.inl rfl)) (bz0 ?_)
  decide
theorem r_isSign_53 {σ : mvSt} : avE 0 202 [.int (nI 53)] σ (some (.int (bI (sgC 53 ≠ 47 ∨ 53 = 58))), σ) := by
  show avA _ 202 0 [.int (nI 53)] [] _ _
  refine a_iload_0 rfl rfl ?_
  refine a_tabIn rfl (by decide) rfl rfl ?_
  refine a_iconst (v := (nI 0)) rfl rfl rfl ?_
  refine av_to (a_zret rfl rfl (Or.inl rfl)) (bz0 ?_)
  decide
theorem r_isSign_54 {σ : mvSt} : avE 0 202 [.int (nI 54)] σ (some (.int (bI (sgC 54 ≠ 47 ∨ 54 = 58))), σ) := by
  show avA _ 202 0 [.int (nI 54)] [] _ _
  refine a_iload_0 rfl rfl ?_
  refine a_tabIn rfl (by decide) rfl rfl ?_
  refine a_iconst (v := (nI 0)) rfl rfl rfl ?_
  refine av_to (a_zret rfl rfl (Or.inl rfl)) (bz0 ?_)
  decide
theorem r_isSign_55 {σ : mvSt} : avE 0 202 [.int (nI 55)] σ (some (.int (bI (sgC 55 ≠ 47 ∨ 55 = 58))), σ) := by
  show avA _ 202 0 [.int (nI 55)] [] _ _
  refine a_iload_0 rfl rfl ?_
  refine a_tabIn rfl (by decide) rfl rfl ?_
  refine a_iconst (v := (nI 0)) rfl rfl rfl ?_
  refine av_to (a_zret rfl rfl (Or.inl rfl)) (bz0 ?_)
  decide
theorem r_isSign_56 {σ : mvSt} : avE 0 202 [.int (nI 56)] σ (some (.int (bI (sgC 56 ≠ 47 ∨ 56 = 58))), σ) := by
  show avA _ 202 0 [.int (nI 56)] [] _ _
  refine a_iload_0 rfl rfl ?_
  refine a_tabIn rfl (by decide) rfl rfl ?_
  refine a_iconst (v := (nI 0)) rfl rfl rfl ?_
  refine av_to (a_zret rfl rfl (Or.inl rfl)) (bz0 ?_)
  decide
theorem r_isSign_57 {σ : mvSt} : avE 0 202 [.int (nI 57)] σ (some (.int (bI (sgC 57 ≠ 47 ∨ 57 = 58))), σ) := by
  show avA _ 202 0 [.int (nI 57)] [] _ _
  refine a_iload_0 rfl rfl ?_
  refine a_tabIn rfl (by decide) rfl rfl ?_
  refine a_iconst (v := (nI 0)) rfl rfl rfl ?_
  refine av_to (a_zret rfl rfl (Or.inl rfl)) (bz0 ?_)
  decide
theorem r_isSign_58 {σ : mvSt} : avE 0 202 [.int (nI 58)] σ (some (.int (bI (sgC 58 ≠ 47 ∨ 58 = 58))), σ) := by
  show avA _ 202 0 [.int (nI 58)] [] _ _
  refine a_iload_0 rfl rfl ?_
  refine a_tabIn rfl (by decide) rfl rfl ?_
  refine a_iconst (v := (nI 1)) rfl rfl rfl ?_
  refine av_to (a_zret rfl rfl (Or.inr rfl)) (bz1 ?_)
  decide
theorem r_isSign_59 {σ : mvSt} : avE 0 202 [.int (nI 59)] σ (some (.int (bI (sgC 59 ≠ 47 ∨ 59 = 58))), σ) := by
  show avA _ 202 0 [.int (nI 59)] [] _ _
  refine a_iload_0 rfl rfl ?_
  refine a_tabIn rfl (by decide) rfl rfl ?_
  refine a_iconst (v := (nI 1)) rfl rfl rfl ?_
  refine av_to (a_zret rfl rfl (Or.inr rfl)) (bz1 ?_)
  decide
theorem r_isSign_60 {σ : mvSt} : avE 0 202 [.int (nI 60)] σ (some (.int (bI (sgC 60 ≠ 47 ∨ 60 = 58))), σ) := by
  show avA _ 202 0 [.int (nI 60)] [] _ _
  refine a_iload_0 rfl rfl ?_
  refine a_tabIn rfl (by decide) rfl rfl ?_
  refine a_iconst (v := (nI 1)) rfl rfl rfl ?_
  refine av_to (a_zret rfl rfl (Or.inr rfl)) (bz1 ?_)
  decide
theorem r_isSign_61 {σ : mvSt} : avE 0 202 [.int (nI 61)] σ (some (.int (bI (sgC 61 ≠ 47 ∨ 61 = 58))), σ) := by
  show avA _ 202 0 [.int (nI 61)] [] _ _
  refine a_iload_0 rfl rfl ?_
  refine a_tabIn rfl (by decide) rfl rfl ?_
  refine a_iconst (v := (nI 1)) rfl rfl rfl ?_
  refine av_to (a_zret rfl rfl (Or.inr rfl)) (bz1 ?_)
  decide
theorem r_isSign_62 {σ : mvSt} : avE 0 202 [.int (nI 62)] σ (some (.int (bI (sgC 62 ≠ 47 ∨ 62 = 58))), σ) := by
  show avA _ 202 0 [.int (nI 62)] [] _ _
  refine a_iload_0 rfl rfl ?_
  refine a_tabIn rfl (by decide) rfl rfl ?_
  refine a_iconst (v := (nI 1)) rfl rfl rfl ?_
  refine av_to (a_zret rfl rfl (Or.inr rfl)) (bz1 ?_)
  decide
theorem r_isSign {σ : mvSt} (c : Nat) (hc : c < 256) : avE 0 202 [.int (nI c)] σ (some (.int (bI (sgC c ≠ 47 ∨ c = 58))), σ) := by
  by_cases r : c < 35 ∨ 62 < c
  · have e := sg_out c hc r
    show avA _ 202 0 [.int (nI (c))] [] _ _
    refine a_iload_0 rfl rfl ?_
    refine a_tabOut rfl (by rw [nI_toInt (by omega)]; omega) rfl ?_
    refine a_iconst (v := (nI 0)) rfl rfl rfl ?_
    refine av_to (a_zret rfl rfl (Or.inl rfl)) (bz0 ?_)
    omega
  · have : c = 35 ∨ c = 36 ∨ c = 37 ∨ c = 38 ∨ c = 39 ∨ c = 40 ∨ c = 41 ∨ c = 42 ∨ c = 43 ∨ c = 44 ∨ c = 45 ∨ c = 46 ∨ c = 47 ∨ c = 48 ∨ c = 49 ∨ c = 50 ∨ c = 51 ∨ c = 52 ∨ c = 53 ∨ c = 54 ∨ c = 55 ∨ c = 56 ∨ c = 57 ∨ c = 58 ∨ c = 59 ∨ c = 60 ∨ c = 61 ∨ c = 62 := by omega
    rcases this with rfl | rfl | rfl | rfl | rfl | rfl | rfl | rfl | rfl | rfl | rfl | rfl | rfl | rfl | rfl | rfl | rfl | rfl | rfl | rfl | rfl | rfl | rfl | rfl | rfl | rfl | rfl | rfl
    · exact r_isSign_35
    · exact r_isSign_36
    · exact r_isSign_37
    · exact r_isSign_38
    · exact r_isSign_39
    · exact r_isSign_40
    · exact r_isSign_41
    · exact r_isSign_42
    · exact r_isSign_43
    · exact r_isSign_44
    · exact r_isSign_45
    · exact r_isSign_46
    · exact r_isSign_47
    · exact r_isSign_48
    · exact r_isSign_49
    · exact r_isSign_50
    · exact r_isSign_51
    · exact r_isSign_52
    · exact r_isSign_53
    · exact r_isSign_54
    · exact r_isSign_55
    · exact r_isSign_56
    · exact r_isSign_57
    · exact r_isSign_58
    · exact r_isSign_59
    · exact r_isSign_60
    · exact r_isSign_61
    · exact r_isSign_62
end NY
