/-! THE NEXT TOKEN: the reference -/
def RP (b : Nat → Nat) (k : Nat) (h : Nat → Nat → Int32) : Prop := h 81 4 = nI k ∧ k ≤ 300 ∧ ∀ i, i < k → h 85 i = nI (b i) ∧ b i < 256
def TR (code τ : Nat) : Prop := (τ = 0 ∧ code = 46) ∨ (τ = 1 ∧ code = 45) ∨ (τ = 2 ∧ (code < 31 ∨ code = 47)) ∨ (τ = 3 ∧ code = 47) ∨ (τ = 58 ∧ code = 47) ∨ (τ = 4 ∧ code = 43) ∨ (τ = 5 ∧ code = 44) ∨ (τ = 60 ∧ code = 32) ∨ (τ = 62 ∧ code = 33) ∨ (τ = 61 ∧ code = 34) ∨ (τ = 35 ∧ code = 35) ∨ (τ = 43 ∧ code = 36) ∨ (τ = 45 ∧ code = 37) ∨ (τ = 42 ∧ code = 38) ∨ (τ = 47 ∧ code = 39) ∨ (τ = 40 ∧ code = 40) ∨ (τ = 41 ∧ code = 41) ∨ (τ = 59 ∧ code = 42)
/-- the token at p is what the reference has before it -/
def rTk (b : Nat → Nat) (k p : Nat) (h : Nat → Nat → Int32) (gl : Nat → Nat → Int64) : Prop := h 81 7 = nI (tk b k p).2.2 ∧ h 81 8 = nI p ∧ ∃ τ : Nat, h 81 9 = nI τ ∧ TR (tk b k p).1 τ ∧ (τ = 1 → ∃ r : Nat, h 81 10 = nI r ∧ r < 2000000 ∧ min r 10000 = (tk b k p).2.1) ∧ (τ = 2 → ∃ v : Nat, gl 81 11 = lN v ∧ v < 4611686018427387904 ∧ ∀ c, c < 31 → (v = wW c ↔ (tk b k p).1 = c))
def F81 (h h' : Nat → Nat → Int32) : Prop := CF [81] h h' ∧ ∀ j, j < 7 ∨ 10 < j → h' 81 j = h 81 j
theorem F81_r {h : Nat → Nat → Int32} : F81 h h := ⟨CF_refl, fun _ _ => rfl⟩
theorem F81_t {h h' h'' : Nat → Nat → Int32} (a : F81 h h') (c : F81 h' h'') : F81 h h'' := ⟨CF_trans a.1 c.1, fun j hj => (c.2 j hj).trans (a.2 j hj)⟩
theorem F81_p {h : Nat → Nat → Int32} {j : Nat} {v : Int32} (hj : 7 ≤ j ∧ j ≤ 10) : F81 h (mvPut h 81 j v) := ⟨CF_put CF_refl rfl, fun i hi => by rw [put_at, if_neg (by omega)]⟩
theorem RP_f {b : Nat → Nat} {k : Nat} {h h' : Nat → Nat → Int32} (H : RP b k h) (f : F81 h h') : RP b k h' := ⟨(f.2 4 (by omega)).trans H.1, H.2.1, by rw [f.1 85 rfl]; exact H.2.2⟩
section NX
variable {L t : Nat} {lt rt rp : Option Nat} {sw : Bool} {gl : Nat → Nat → Int64} {b : Nat → Nat} {k : Nat} {h : Nat → Nat → Int32}
theorem r_byT (H : RP b k h) {i : Nat} (hi : i < k) : avE 0 199 [.ref 81, .int (nI i)] (sX L t lt rt rp sw h gl) (some (.int (nI (b i))), sX L t lt rt rp sw h gl) := by
  have hk := H.2.1
  show avA _ 199 0 [.ref 81, .int (nI (i))] [] _ _
  refine a_iload_1 rfl rfl ?_
  refine a_aload_0 rfl rfl ?_
  refine a_geti rfl rfl rfl (fun _ _ _ => rfl) ?_
  refine a_as (y := nI (k)) H.1 ?_
  refine a_cmpN_ge rfl rfl rfl (by omega) (by omega) (fun c_5 => False.elim (by omega)) (fun _ => ?_)
  refine a_aload_0 rfl rfl ?_
  refine a_getr rfl rfl rfl (fun _ _ _ => rfl) rfl ?_
  refine a_iload_1 rfl rfl ?_
  refine a_iald rfl rfl (Or.inl rfl) rfl (by omega) (by decide) ?_
  refine a_as (y := nI (b i)) (H.2.2 i hi).1 ?_
  refine a_goto rfl rfl ?_
  exact a_iret rfl rfl
theorem r_byF (H : RP b k h) {i : Nat} (hi : k ≤ i) (h2 : i < 1000) : avE 0 199 [.ref 81, .int (nI i)] (sX L t lt rt rp sw h gl) (some (.int (iI (-1))), sX L t lt rt rp sw h gl) := by
  have hk := H.2.1
  show avA _ 199 0 [.ref 81, .int (nI (i))] [] _ _
  refine a_iload_1 rfl rfl ?_
  refine a_aload_0 rfl rfl ?_
  refine a_geti rfl rfl rfl (fun _ _ _ => rfl) ?_
  refine a_as (y := nI (k)) H.1 ?_
  refine a_cmpN_ge rfl rfl rfl (by omega) (by omega) (fun _ => ?_) (fun c_5 => False.elim (by omega))
  refine a_iconst (v := iI (-1)) rfl rfl rfl ?_
  exact a_iret rfl rfl
theorem r_isFig {σ : mvSt} (c : Nat) (hc : c < 256) : avE 0 200 [.int (nI c)] σ (some (.int (bI (isD c = true))), σ) := by
  show avA _ 200 0 [.int (nI (c))] [] _ _
  refine a_iload_0 rfl rfl ?_
  refine a_bipush (v := (nI 48)) rfl rfl rfl ?_
  refine a_cmpN_lt rfl rfl rfl (by omega) (by omega) (fun c_3 => ?_) (fun c_3 => ?_)
  · refine a_iconst (v := (nI 0)) rfl rfl rfl ?_
    refine av_to (a_zret rfl rfl (Or.inl rfl)) (bz0 ?_)
    unfold isD; simp; omega
  · refine a_iload_0 rfl rfl ?_
    refine a_bipush (v := (nI 57)) rfl rfl rfl ?_
    refine a_cmpN_gt rfl rfl rfl (by omega) (by omega) (fun c_9 => ?_) (fun c_9 => ?_)
    · refine a_iconst (v := (nI 0)) rfl rfl rfl ?_
      refine av_to (a_zret rfl rfl (Or.inl rfl)) (bz0 ?_)
      unfold isD; simp; omega
    · refine a_iconst (v := (nI 1)) rfl rfl rfl ?_
      refine a_goto rfl rfl ?_
      refine av_to (a_zret rfl rfl (Or.inr rfl)) (bz1 ?_)
      unfold isD; simp; omega
theorem r_isFigM {σ : mvSt} : avE 0 200 [.int (iI (-1))] σ (some (.int (bI False)), σ) := by
  show avA _ 200 0 [.int (iI (-1))] [] _ _
  refine a_iload_0 rfl rfl ?_
  refine a_bipush (v := iI (48)) rfl rfl rfl ?_
  refine a_cmpI_lt rfl rfl rfl (iI_toInt (by omega) (by omega)) (iI_toInt (by omega) (by omega)) (fun _ => ?_) (fun c_3 => False.elim (by omega))
  refine a_iconst (v := (nI 0)) rfl rfl rfl ?_
  refine av_to (a_zret rfl rfl (Or.inl rfl)) (bz0 ?_)
  exact id
theorem r_isLet {σ : mvSt} (c : Nat) (hc : c < 256) : avE 0 201 [.int (nI c)] σ (some (.int (bI (isL c = true))), σ) := by
  show avA _ 201 0 [.int (nI (c))] [] _ _
  refine a_iload_0 rfl rfl ?_
  refine a_bipush (v := (nI 97)) rfl rfl rfl ?_
  refine a_cmpN_lt rfl rfl rfl (by omega) (by omega) (fun c_3 => ?_) (fun c_3 => ?_)
  · refine a_iload_0 rfl rfl ?_
    refine a_bipush (v := (nI 65)) rfl rfl rfl ?_
    refine a_cmpN_lt rfl rfl rfl (by omega) (by omega) (fun c_15 => ?_) (fun c_15 => ?_)
    · refine a_iconst (v := (nI 0)) rfl rfl rfl ?_
      refine av_to (a_zret rfl rfl (Or.inl rfl)) (bz0 ?_)
      unfold isL; simp; omega
    · refine a_iload_0 rfl rfl ?_
      refine a_bipush (v := (nI 90)) rfl rfl rfl ?_
      refine a_cmpN_gt rfl rfl rfl (by omega) (by omega) (fun c_21 => ?_) (fun c_21 => ?_)
      · refine a_iconst (v := (nI 0)) rfl rfl rfl ?_
        refine av_to (a_zret rfl rfl (Or.inl rfl)) (bz0 ?_)
        unfold isL; simp; omega
      · refine a_iconst (v := (nI 1)) rfl rfl rfl ?_
        refine a_goto rfl rfl ?_
        refine av_to (a_zret rfl rfl (Or.inr rfl)) (bz1 ?_)
        unfold isL; simp; omega
  · refine a_iload_0 rfl rfl ?_
    refine a_bipush (v := (nI 122)) rfl rfl rfl ?_
    refine a_cmpN_le rfl rfl rfl (by omega) (by omega) (fun c_9 => ?_) (fun c_9 => ?_)
    · refine a_iconst (v := (nI 1)) rfl rfl rfl ?_
      refine a_goto rfl rfl ?_
      refine av_to (a_zret rfl rfl (Or.inr rfl)) (bz1 ?_)
      unfold isL; simp; omega
    · refine a_iload_0 rfl rfl ?_
      refine a_bipush (v := (nI 65)) rfl rfl rfl ?_
      refine a_cmpN_lt rfl rfl rfl (by omega) (by omega) (fun c_15 => ?_) (fun c_15 => ?_)
      · refine a_iconst (v := (nI 0)) rfl rfl rfl ?_
        refine av_to (a_zret rfl rfl (Or.inl rfl)) (bz0 ?_)
        unfold isL; simp; omega
      · refine a_iload_0 rfl rfl ?_
        refine a_bipush (v := (nI 90)) rfl rfl rfl ?_
        refine a_cmpN_gt rfl rfl rfl (by omega) (by omega) (fun c_21 => ?_) (fun c_21 => ?_)
        · refine a_iconst (v := (nI 0)) rfl rfl rfl ?_
          refine av_to (a_zret rfl rfl (Or.inl rfl)) (bz0 ?_)
          unfold isL; simp; omega
        · refine a_iconst (v := (nI 1)) rfl rfl rfl ?_
          refine a_goto rfl rfl ?_
          refine av_to (a_zret rfl rfl (Or.inr rfl)) (bz1 ?_)
          unfold isL; simp; omega
theorem r_isLetM {σ : mvSt} : avE 0 201 [.int (iI (-1))] σ (some (.int (bI False)), σ) := by
  show avA _ 201 0 [.int (iI (-1))] [] _ _
  refine a_iload_0 rfl rfl ?_
  refine a_bipush (v := iI (97)) rfl rfl rfl ?_
  refine a_cmpI_lt rfl rfl rfl (iI_toInt (by omega) (by omega)) (iI_toInt (by omega) (by omega)) (fun _ => ?_) (fun c_3 => False.elim (by omega))
  refine a_iload_0 rfl rfl ?_
  refine a_bipush (v := iI (65)) rfl rfl rfl ?_
  refine a_cmpI_lt rfl rfl rfl (iI_toInt (by omega) (by omega)) (iI_toInt (by omega) (by omega)) (fun _ => ?_) (fun c_15 => False.elim (by omega))
  refine a_iconst (v := (nI 0)) rfl rfl rfl ?_
  refine av_to (a_zret rfl rfl (Or.inl rfl)) (bz0 ?_)
  exact id
theorem l_skip2 (m : Nat) : ∀ (p : Nat) (h : Nat → Nat → Int32), k ≤ p + m → p ≤ k → RP b k h → h 81 7 = nI p → ∃ h', F81 h h' ∧ h' 81 7 = nI (rn isB b k p) ∧ ∀ r, avA 1 198 39 [.ref 81, mvU] [] (sX L t lt rt rp sw h' gl) r → avA 1 198 0 [.ref 81, mvU] [] (sX L t lt rt rp sw h gl) r := by
  have EN : ∀ (p : Nat) (h : Nat → Nat → Int32), p = k → RP b k h → h 81 7 = nI p → ∃ h', F81 h h' ∧ h' 81 7 = nI (rn isB b k p) ∧ ∀ r, avA 1 198 39 [.ref 81, mvU] [] (sX L t lt rt rp sw h' gl) r → avA 1 198 0 [.ref 81, mvU] [] (sX L t lt rt rp sw h gl) r := by
    intro p h e H h7
    have hk := H.2.1
    refine ⟨h, F81_r, by rw [rn_e (fun a => by omega)]; exact h7, fun r Z => ?_⟩
    show avA _ 198 0 [.ref 81, mvU] [] _ _
    refine a_aload_0 rfl rfl ?_
    refine a_aload_0 rfl rfl ?_
    refine a_geti rfl rfl rfl (fun _ _ _ => rfl) ?_
    refine a_as (y := nI (p)) h7 ?_
    refine a_virtI rfl rfl (r_byF H (by omega) (by omega)) (Nat.le_of_ble_eq_true rfl) ⟨rfl, rfl, rfl, rfl⟩ rfl rfl rfl (Nat.le_of_ble_eq_true rfl) rfl rfl ?_
    refine a_bipush (v := iI (32)) rfl rfl rfl ?_
    refine a_cmpI_eq rfl rfl rfl (iI_toInt (by omega) (by omega)) (iI_toInt (by omega) (by omega)) (fun c_10 => False.elim (by omega)) (fun _ => ?_)
    refine a_aload_0 rfl rfl ?_
    refine a_aload_0 rfl rfl ?_
    refine a_geti rfl rfl rfl (fun _ _ _ => rfl) ?_
    refine a_as (y := nI (p)) h7 ?_
    refine a_virtI rfl rfl (r_byF H (by omega) (by omega)) (Nat.le_of_ble_eq_true rfl) ⟨rfl, rfl, rfl, rfl⟩ rfl rfl rfl (Nat.le_of_ble_eq_true rfl) rfl rfl ?_
    refine a_bipush (v := iI (10)) rfl rfl rfl ?_
    refine a_cmpI_ne rfl rfl rfl (iI_toInt (by omega) (by omega)) (iI_toInt (by omega) (by omega)) (fun _ => ?_) (fun c_23 => False.elim (by omega))
    exact Z
  induction m with
  | zero => intro p h hm hp H h7; exact EN p h (by omega) H h7
  | succ m ih =>
    intro p h hm hp H h7
    have hk := H.2.1
    by_cases c0 : p < k
    · obtain ⟨e1, l1⟩ := H.2.2 p c0
      by_cases c : isB (b p) = true
      · have cb := of_decide_eq_true c
        obtain ⟨h', a1, a2, Z'⟩ := ih (p + 1) (mvPut h 81 7 (nI (p + 1))) (by omega) (by omega) (RP_f H (F81_p (by omega))) (by rw [put_at]; simp)
        refine ⟨h', F81_t (F81_p (by omega)) a1, by rw [rn_s ⟨c0, c⟩]; exact a2, fun r Z0 => ?_⟩
        have Z := Z' r Z0
        show avA _ 198 0 [.ref 81, mvU] [] _ _
        refine a_aload_0 rfl rfl ?_
        refine a_aload_0 rfl rfl ?_
        refine a_geti rfl rfl rfl (fun _ _ _ => rfl) ?_
        refine a_as (y := nI (p)) h7 ?_
        refine a_virtI rfl rfl (r_byT H c0) (Nat.le_of_ble_eq_true rfl) ⟨rfl, rfl, rfl, rfl⟩ rfl rfl rfl (Nat.le_of_ble_eq_true rfl) rfl rfl ?_
        refine a_bipush (v := (nI 32)) rfl rfl rfl ?_
        refine a_cmpN_eq rfl rfl rfl (by omega) (by omega) (fun c_10 => ?_) (fun c_10 => ?_)
        · refine a_aload_0 rfl rfl ?_
          refine a_dup rfl rfl rfl ?_
          refine a_geti rfl rfl rfl (fun _ _ _ => rfl) ?_
          refine a_as (y := nI (p)) h7 ?_
          refine a_iconst (v := (nI 1)) rfl rfl rfl ?_
          refine a_iaddN rfl rfl ?_
          refine a_puti rfl rfl rfl rfl ?_
          refine a_goto rfl rfl ?_
          exact Z
        · refine a_aload_0 rfl rfl ?_
          refine a_aload_0 rfl rfl ?_
          refine a_geti rfl rfl rfl (fun _ _ _ => rfl) ?_
          refine a_as (y := nI (p)) h7 ?_
          refine a_virtI rfl rfl (r_byT H c0) (Nat.le_of_ble_eq_true rfl) ⟨rfl, rfl, rfl, rfl⟩ rfl rfl rfl (Nat.le_of_ble_eq_true rfl) rfl rfl ?_
          refine a_bipush (v := (nI 10)) rfl rfl rfl ?_
          refine a_cmpN_ne rfl rfl rfl (by omega) (by omega) (fun c_23 => False.elim (by omega)) (fun _ => ?_)
          refine a_aload_0 rfl rfl ?_
          refine a_dup rfl rfl rfl ?_
          refine a_geti rfl rfl rfl (fun _ _ _ => rfl) ?_
          refine a_as (y := nI (p)) h7 ?_
          refine a_iconst (v := (nI 1)) rfl rfl rfl ?_
          refine a_iaddN rfl rfl ?_
          refine a_puti rfl rfl rfl rfl ?_
          refine a_goto rfl rfl ?_
          exact Z
      · have cb : ¬ (b p = 32 ∨ b p = 10) := fun x => c (decide_eq_true x)
        refine ⟨h, F81_r, by rw [rn_e (fun a => c a.2)]; exact h7, fun r Z => ?_⟩
        show avA _ 198 0 [.ref 81, mvU] [] _ _
        refine a_aload_0 rfl rfl ?_
        refine a_aload_0 rfl rfl ?_
        refine a_geti rfl rfl rfl (fun _ _ _ => rfl) ?_
        refine a_as (y := nI (p)) h7 ?_
        refine a_virtI rfl rfl (r_byT H c0) (Nat.le_of_ble_eq_true rfl) ⟨rfl, rfl, rfl, rfl⟩ rfl rfl rfl (Nat.le_of_ble_eq_true rfl) rfl rfl ?_
        refine a_bipush (v := (nI 32)) rfl rfl rfl ?_
        refine a_cmpN_eq rfl rfl rfl (by omega) (by omega) (fun c_10 => False.elim (by omega)) (fun _ => ?_)
        refine a_aload_0 rfl rfl ?_
        refine a_aload_0 rfl rfl ?_
        refine a_geti rfl rfl rfl (fun _ _ _ => rfl) ?_
        refine a_as (y := nI (p)) h7 ?_
        refine a_virtI rfl rfl (r_byT H c0) (Nat.le_of_ble_eq_true rfl) ⟨rfl, rfl, rfl, rfl⟩ rfl rfl rfl (Nat.le_of_ble_eq_true rfl) rfl rfl ?_
        refine a_bipush (v := (nI 10)) rfl rfl rfl ?_
        refine a_cmpN_ne rfl rfl rfl (by omega) (by omega) (fun _ => ?_) (fun c_23 => False.elim (by omega))
        exact Z
    · exact EN p h (by omega) H h7
/-- figures -/
theorem l_figs (y : Value) (m : Nat) : ∀ (p v w : Nat) (h : Nat → Nat → Int32), k ≤ p + m → p ≤ k → RP b k h → h 81 7 = nI p → h 81 10 = nI w → w < 2000000 → v ≤ 10000 → min w 10000 = v → (w ≤ 99999 ∨ 10000 ≤ w) → ∃ h', F81 h h' ∧ h' 81 7 = nI (rn isD b k p) ∧ h' 81 8 = h 81 8 ∧ h' 81 9 = h 81 9 ∧ (∃ r : Nat, h' 81 10 = nI r ∧ r < 2000000 ∧ min r 10000 = nv b k p v) ∧ avA 1 198 85 [.ref 81, y] [] (sX L t lt rt rp sw h gl) (none, sX L t lt rt rp sw h' gl) := by
  have EN : ∀ (p v w : Nat) (h : Nat → Nat → Int32), p = k → RP b k h → h 81 7 = nI p → h 81 10 = nI w → w < 2000000 → min w 10000 = v → ∃ h', F81 h h' ∧ h' 81 7 = nI (rn isD b k p) ∧ h' 81 8 = h 81 8 ∧ h' 81 9 = h 81 9 ∧ (∃ r : Nat, h' 81 10 = nI r ∧ r < 2000000 ∧ min r 10000 = nv b k p v) ∧ avA 1 198 85 [.ref 81, y] [] (sX L t lt rt rp sw h gl) (none, sX L t lt rt rp sw h' gl) := by
    intro p v w h e H h7 h10 hw hv
    have hk := H.2.1
    refine ⟨h, F81_r, by rw [rn_e (fun a => by omega)]; exact h7, rfl, rfl, ⟨w, h10, hw, by rw [nv_e (fun a => by omega)]; exact hv⟩, ?_⟩
    refine a_aload_0 rfl rfl ?_
    refine a_aload_0 rfl rfl ?_
    refine a_geti rfl rfl rfl (fun _ _ _ => rfl) ?_
    refine a_as (y := nI (p)) h7 ?_
    refine a_virtI rfl rfl (r_byF H (by omega) (by omega)) (Nat.le_of_ble_eq_true rfl) ⟨rfl, rfl, rfl, rfl⟩ rfl rfl rfl (Nat.le_of_ble_eq_true rfl) rfl rfl ?_
    refine a_statI rfl rfl (r_isFigM) (Nat.le_of_ble_eq_true rfl) ⟨rfl, rfl, rfl⟩ rfl rfl rfl (Nat.le_of_ble_eq_true rfl) rfl ?_
    refine a_ifb_eq rfl rfl rfl (fun _ => ?_) (fun c_96 => by first | exact absurd id c_96 | exact absurd c_96 id)
    exact a_vret rfl rfl
  induction m with
  | zero => intro p v w h hm hp H h7 h10 hw _ hv _; exact EN p v w h (by omega) H h7 h10 hw hv
  | succ m ih =>
    intro p v w h hm hp H h7 h10 hw hv10 hv hor
    have hk := H.2.1
    by_cases c0 : p < k
    · obtain ⟨e1, l1⟩ := H.2.2 p c0
      by_cases c : isD (b p) = true
      · have cd := of_decide_eq_true c
        by_cases g : 99999 < w
        · obtain ⟨h', a1, a2, a3, a4, a5, Z⟩ := ih (p + 1) (min 10000 (v * 10 + b p - 48)) w (mvPut (mvPut h 81 10 (nI w)) 81 7 (nI (p + 1))) (by omega) (by omega) (RP_f H (F81_t (F81_p (by omega)) (F81_p (by omega)))) (by rw [put_at]; simp) (by rw [put_at, put_at]; simp) hw (by omega) (by omega) (by omega)
          refine ⟨h', F81_t (F81_t (F81_p (by omega)) (F81_p (by omega))) a1, by rw [rn_s ⟨c0, c⟩]; exact a2, by rw [a3, put_at, put_at]; simp, by rw [a4, put_at, put_at]; simp, by rw [nv_s ⟨c0, c⟩]; exact a5, ?_⟩
          refine a_aload_0 rfl rfl ?_
          refine a_aload_0 rfl rfl ?_
          refine a_geti rfl rfl rfl (fun _ _ _ => rfl) ?_
          refine a_as (y := nI (p)) h7 ?_
          refine a_virtI rfl rfl (r_byT H c0) (Nat.le_of_ble_eq_true rfl) ⟨rfl, rfl, rfl, rfl⟩ rfl rfl rfl (Nat.le_of_ble_eq_true rfl) rfl rfl ?_
          refine a_statI rfl rfl (r_isFig (b p) l1) (Nat.le_of_ble_eq_true rfl) ⟨rfl, rfl, rfl⟩ rfl rfl rfl (Nat.le_of_ble_eq_true rfl) rfl ?_
          refine a_ifb_eq rfl rfl rfl (fun c_96 => by first | exact absurd c_96 (not_not_intro c) | exact absurd (not_not_intro c) c_96) (fun _ => ?_)
          refine a_aload_0 rfl rfl ?_
          refine a_aload_0 rfl rfl ?_
          refine a_geti rfl rfl rfl (fun _ _ _ => rfl) ?_
          refine a_as (y := nI (w)) h10 ?_
          refine a_ldc (v := (nI 99999)) rfl rfl rfl ?_
          refine a_cmpN_le rfl rfl rfl (by omega) (by omega) (fun c_106 => False.elim (by omega)) (fun _ => ?_)
          refine a_aload_0 rfl rfl ?_
          refine a_geti rfl rfl rfl (fun _ _ _ => rfl) ?_
          refine a_as (y := nI (w)) h10 ?_
          refine a_goto rfl rfl ?_
          refine a_puti rfl rfl rfl rfl ?_
          refine a_aload_0 rfl rfl ?_
          refine a_dup rfl rfl rfl ?_
          refine a_geti rfl rfl rfl (fun _ _ _ => rfl) ?_
          refine a_as (y := nI (p)) (by rw [put_at]; simp; exact h7) ?_
          refine a_iconst (v := (nI 1)) rfl rfl rfl ?_
          refine a_iaddN rfl rfl ?_
          refine a_puti rfl rfl rfl rfl ?_
          refine a_goto rfl rfl ?_
          exact Z
        · obtain ⟨h', a1, a2, a3, a4, a5, Z⟩ := ih (p + 1) (min 10000 (v * 10 + b p - 48)) (10 * w + b p - 48) (mvPut (mvPut h 81 10 (nI (10 * w + b p - 48))) 81 7 (nI (p + 1))) (by omega) (by omega) (RP_f H (F81_t (F81_p (by omega)) (F81_p (by omega)))) (by rw [put_at]; simp) (by rw [put_at, put_at]; simp) (by omega) (by omega) (by omega) (by omega)
          refine ⟨h', F81_t (F81_t (F81_p (by omega)) (F81_p (by omega))) a1, by rw [rn_s ⟨c0, c⟩]; exact a2, by rw [a3, put_at, put_at]; simp, by rw [a4, put_at, put_at]; simp, by rw [nv_s ⟨c0, c⟩]; exact a5, ?_⟩
          refine a_aload_0 rfl rfl ?_
          refine a_aload_0 rfl rfl ?_
          refine a_geti rfl rfl rfl (fun _ _ _ => rfl) ?_
          refine a_as (y := nI (p)) h7 ?_
          refine a_virtI rfl rfl (r_byT H c0) (Nat.le_of_ble_eq_true rfl) ⟨rfl, rfl, rfl, rfl⟩ rfl rfl rfl (Nat.le_of_ble_eq_true rfl) rfl rfl ?_
          refine a_statI rfl rfl (r_isFig (b p) l1) (Nat.le_of_ble_eq_true rfl) ⟨rfl, rfl, rfl⟩ rfl rfl rfl (Nat.le_of_ble_eq_true rfl) rfl ?_
          refine a_ifb_eq rfl rfl rfl (fun c_96 => by first | exact absurd c_96 (not_not_intro c) | exact absurd (not_not_intro c) c_96) (fun _ => ?_)
          refine a_aload_0 rfl rfl ?_
          refine a_aload_0 rfl rfl ?_
          refine a_geti rfl rfl rfl (fun _ _ _ => rfl) ?_
          refine a_as (y := nI (w)) h10 ?_
          refine a_ldc (v := (nI 99999)) rfl rfl rfl ?_
          refine a_cmpN_le rfl rfl rfl (by omega) (by omega) (fun _ => ?_) (fun c_106 => False.elim (by omega))
          refine a_bipush (v := (nI 10)) rfl rfl rfl ?_
          refine a_aload_0 rfl rfl ?_
          refine a_geti rfl rfl rfl (fun _ _ _ => rfl) ?_
          refine a_as (y := nI (w)) h10 ?_
          refine a_imulN rfl rfl ?_
          refine a_aload_0 rfl rfl ?_
          refine a_aload_0 rfl rfl ?_
          refine a_geti rfl rfl rfl (fun _ _ _ => rfl) ?_
          refine a_as (y := nI (p)) h7 ?_
          refine a_virtI rfl rfl (r_byT H c0) (Nat.le_of_ble_eq_true rfl) ⟨rfl, rfl, rfl, rfl⟩ rfl rfl rfl (Nat.le_of_ble_eq_true rfl) rfl rfl ?_
          refine a_iaddN rfl rfl ?_
          refine a_bipush (v := (nI 48)) rfl rfl rfl ?_
          refine a_isubN rfl rfl (by omega) ?_
          refine a_puti rfl rfl rfl rfl ?_
          refine a_aload_0 rfl rfl ?_
          refine a_dup rfl rfl rfl ?_
          refine a_geti rfl rfl rfl (fun _ _ _ => rfl) ?_
          refine a_as (y := nI (p)) (by rw [put_at]; simp; exact h7) ?_
          refine a_iconst (v := (nI 1)) rfl rfl rfl ?_
          refine a_iaddN rfl rfl ?_
          refine a_puti rfl rfl rfl rfl ?_
          refine a_goto rfl rfl ?_
          exact Z
      · refine ⟨h, F81_r, by rw [rn_e (fun a => c a.2)]; exact h7, rfl, rfl, ⟨w, h10, hw, by rw [nv_e (fun a => c a.2)]; exact hv⟩, ?_⟩
        refine a_aload_0 rfl rfl ?_
        refine a_aload_0 rfl rfl ?_
        refine a_geti rfl rfl rfl (fun _ _ _ => rfl) ?_
        refine a_as (y := nI (p)) h7 ?_
        refine a_virtI rfl rfl (r_byT H c0) (Nat.le_of_ble_eq_true rfl) ⟨rfl, rfl, rfl, rfl⟩ rfl rfl rfl (Nat.le_of_ble_eq_true rfl) rfl rfl ?_
        refine a_statI rfl rfl (r_isFig (b p) l1) (Nat.le_of_ble_eq_true rfl) ⟨rfl, rfl, rfl⟩ rfl rfl rfl (Nat.le_of_ble_eq_true rfl) rfl ?_
        refine a_ifb_eq rfl rfl rfl (fun _ => ?_) (fun c_96 => by first | exact absurd c c_96 | exact absurd c_96 c)
        exact a_vret rfl rfl
    · exact EN p v w h (by omega) H h7 h10 hw hv
end NX
