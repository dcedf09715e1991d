/-! CUTTING THE TAPE: numbers, signs, the whole -/
theorem sg_60 (c : Nat) : sgC c = 32 ↔ c = 60 := by unfold sgC; repeat' split
                                                    all_goals omega
theorem sg_62 (c : Nat) : sgC c = 33 ↔ c = 62 := by unfold sgC; repeat' split
                                                    all_goals omega
theorem sg_b (c : Nat) : 32 ≤ sgC c ∧ (sgC c ≤ 42 ∨ sgC c = 47) := by unfold sgC; repeat' split
                                                                      all_goals omega
theorem ch_256 : ∀ c, c < 256 → ((nI c).toUInt32 % 65536).toInt32 = nI c := by decide +kernel
section CV
variable {L t : Nat} {lt rt rp : Option Nat} {sw : Bool} {gl : Nat → Nat → Int64} {b : Nat → Nat} {k : Nat}
theorem l_cutN (p : Nat) (m : Nat) : ∀ (q v : Nat) (h : Nat → Nat → Int32), k ≤ q + m → q ≤ k → v ≤ 10000 → TP b k h → h 68 5 = nI q → ∃ h', CF [68] h h' ∧ h' 68 5 = nI (rn isD b k q) ∧ (∀ j, j ≠ 5 → h' 68 j = h 68 j) ∧ ∀ r, avA 1 47 70 [.ref 68, .int (nI p), .int (nI (nv b k q v))] [] (sX L t lt rt rp sw h' gl) r → avA 1 47 7 [.ref 68, .int (nI p), .int (nI v)] [] (sX L t lt rt rp sw h gl) r := by
  induction m with
  | zero =>
    intro q v h hm hq hv T h5
    have hk := T.2.1
    refine ⟨h, CF_refl, by rw [rn_e (fun a => by omega)]; exact h5, fun _ _ => rfl, fun r Z => ?_⟩
    rw [nv_e (fun a => by omega)] at Z
    refine a_aload_0 rfl rfl ?_
    refine a_geti rfl rfl rfl (fun _ _ _ => rfl) ?_
    refine a_as (y := nI (q)) h5 ?_
    refine a_aload_0 rfl rfl ?_
    refine a_geti rfl rfl rfl (fun _ _ _ => rfl) ?_
    refine a_as (y := nI (k)) T.1 ?_
    refine a_cmpN_ge rfl rfl rfl (by omega) (by omega) (fun _ => ?_) (fun c_15 => False.elim (by omega))
    exact Z
  | succ m ih =>
    intro q v h hm hq hv T h5
    have hk := T.2.1
    by_cases c0 : q < k
    · obtain ⟨e1, l1⟩ := T.2.2 q c0
      by_cases c : isD (b q) = true
      · have cd := of_decide_eq_true c
        obtain ⟨h', a1, a2, a3, Z'⟩ := ih (q + 1) (min 10000 (v * 10 + b q - 48)) (mvPut h 68 5 (nI (q + 1))) (by omega) (by omega) (by omega) (TP_fr T (by rw [put_at]; simp) rfl) (by rw [put_at]; simp)
        refine ⟨h', CF_trans (CF_put CF_refl rfl) a1, by rw [rn_s ⟨c0, c⟩]; exact a2, fun j hj => by rw [a3 j hj, put_at]; simp [hj], fun r Z0 => ?_⟩
        rw [nv_s ⟨c0, c⟩] at Z0
        have Z := Z' r Z0
        refine a_aload_0 rfl rfl ?_
        refine a_geti rfl rfl rfl (fun _ _ _ => rfl) ?_
        refine a_as (y := nI (q)) h5 ?_
        refine a_aload_0 rfl rfl ?_
        refine a_geti rfl rfl rfl (fun _ _ _ => rfl) ?_
        refine a_as (y := nI (k)) T.1 ?_
        refine a_cmpN_ge rfl rfl rfl (by omega) (by omega) (fun c_15 => False.elim (by omega)) (fun _ => ?_)
        refine a_aload_0 rfl rfl ?_
        refine a_getr rfl rfl rfl (fun _ _ _ => rfl) rfl ?_
        refine a_aload_0 rfl rfl ?_
        refine a_geti rfl rfl rfl (fun _ _ _ => rfl) ?_
        refine a_as (y := nI (q)) h5 ?_
        refine a_iald rfl rfl (Or.inl rfl) rfl (by omega) (by decide) ?_
        refine a_as (y := nI (b q)) e1 ?_
        refine a_statI rfl rfl (t_isDigit (b q) l1) (Nat.le_of_ble_eq_true rfl) ⟨rfl, rfl, rfl⟩ rfl rfl rfl (Nat.le_of_ble_eq_true rfl) rfl ?_
        refine a_ifb_eq rfl rfl rfl (fun c_30 => by first | exact absurd c_30 (not_not_intro c) | exact absurd (not_not_intro c) c_30) (fun _ => ?_)
        refine a_sipush (v := (nI 10000)) rfl rfl rfl ?_
        refine a_iload_2 rfl rfl ?_
        refine a_bipush (v := (nI 10)) rfl rfl rfl ?_
        refine a_imulN rfl rfl ?_
        refine a_aload_0 rfl rfl ?_
        refine a_getr rfl rfl rfl (fun _ _ _ => rfl) rfl ?_
        refine a_aload_0 rfl rfl ?_
        refine a_geti rfl rfl rfl (fun _ _ _ => rfl) ?_
        refine a_as (y := nI (q)) h5 ?_
        refine a_iald rfl rfl (Or.inl rfl) rfl (by omega) (by decide) ?_
        refine a_as (y := nI (b q)) e1 ?_
        refine a_iaddN rfl rfl ?_
        refine a_bipush (v := (nI 48)) rfl rfl rfl ?_
        refine a_isubN rfl rfl (by omega) ?_
        refine a_minN rfl rfl (Nat.le_of_ble_eq_true rfl) (by omega) (by omega) ?_
        refine a_istore_2 rfl rfl rfl ?_
        refine a_aload_0 rfl rfl ?_
        refine a_dup rfl rfl rfl ?_
        refine a_geti rfl rfl rfl (fun _ _ _ => rfl) ?_
        refine a_as (y := nI (q)) h5 ?_
        refine a_iconst (v := (nI 1)) rfl rfl rfl ?_
        refine a_iaddN rfl rfl ?_
        refine a_puti rfl rfl rfl rfl ?_
        refine a_goto rfl rfl ?_
        exact Z
      · refine ⟨h, CF_refl, by rw [rn_e (fun a => c a.2)]; exact h5, fun _ _ => rfl, fun r Z => ?_⟩
        rw [nv_e (fun a => c a.2)] at Z
        refine a_aload_0 rfl rfl ?_
        refine a_geti rfl rfl rfl (fun _ _ _ => rfl) ?_
        refine a_as (y := nI (q)) h5 ?_
        refine a_aload_0 rfl rfl ?_
        refine a_geti rfl rfl rfl (fun _ _ _ => rfl) ?_
        refine a_as (y := nI (k)) T.1 ?_
        refine a_cmpN_ge rfl rfl rfl (by omega) (by omega) (fun c_15 => False.elim (by omega)) (fun _ => ?_)
        refine a_aload_0 rfl rfl ?_
        refine a_getr rfl rfl rfl (fun _ _ _ => rfl) rfl ?_
        refine a_aload_0 rfl rfl ?_
        refine a_geti rfl rfl rfl (fun _ _ _ => rfl) ?_
        refine a_as (y := nI (q)) h5 ?_
        refine a_iald rfl rfl (Or.inl rfl) rfl (by omega) (by decide) ?_
        refine a_as (y := nI (b q)) e1 ?_
        refine a_statI rfl rfl (t_isDigit (b q) l1) (Nat.le_of_ble_eq_true rfl) ⟨rfl, rfl, rfl⟩ rfl rfl rfl (Nat.le_of_ble_eq_true rfl) rfl ?_
        refine a_ifb_eq rfl rfl rfl (fun _ => ?_) (fun c_30 => by first | exact absurd c c_30 | exact absurd c_30 c)
        exact Z
    · refine ⟨h, CF_refl, by rw [rn_e (fun a => by omega)]; exact h5, fun _ _ => rfl, fun r Z => ?_⟩
      rw [nv_e (fun a => by omega)] at Z
      refine a_aload_0 rfl rfl ?_
      refine a_geti rfl rfl rfl (fun _ _ _ => rfl) ?_
      refine a_as (y := nI (q)) h5 ?_
      refine a_aload_0 rfl rfl ?_
      refine a_geti rfl rfl rfl (fun _ _ _ => rfl) ?_
      refine a_as (y := nI (k)) T.1 ?_
      refine a_cmpN_ge rfl rfl rfl (by omega) (by omega) (fun _ => ?_) (fun c_15 => False.elim (by omega))
      exact Z
theorem e_cutNumber {h : Nat → Nat → Int32} (T : TP b k h) {p c : Nat} (hp : p ≤ k) (h5 : h 68 5 = nI p) (h3 : h 68 3 = nI c) (lc : c ≤ 300) : ∃ h', avE 1 47 [.ref 68] (sX L t lt rt rp sw h gl) (none, sX L t lt rt rp sw h' gl) ∧ AT h h' c (rn isD b k p) (pkT p (nv b k p 0) 45) := by
  have hk := T.2.1
  have hn := nv_le b k k p 0 (by omega) (by omega)
  obtain ⟨h1, c1, e5, o1, Q⟩ := l_cutN (L := L) (t := t) (lt := lt) (rt := rt) (rp := rp) (sw := sw) (gl := gl) (b := b) (k := k) p k p 0 h (by omega) hp (by omega) T h5
  obtain ⟨h', C, A⟩ := e_addToken (L := L) (t := t) (lt := lt) (rt := rt) (rp := rp) (sw := sw) (gl := gl) ((o1 3 (by omega)).trans h3) e5 lc (tok := 45) (nu := nv b k p 0) (pl := p) (by omega) hn (by omega)
  refine ⟨h', ?_, AT_pre c1 o1 A⟩
  have Z8 : avA 1 47 70 [.ref 68, .int (nI p), .int (nI (nv b k p 0))] [] (sX L t lt rt rp sw h1 gl) (none, sX L t lt rt rp sw h' gl) := by
    refine a_aload_0 rfl rfl ?_
    refine a_bipush (v := (nI 45)) rfl rfl rfl ?_
    refine a_iload_2 rfl rfl ?_
    refine a_iload_1 rfl rfl ?_
    refine a_virt0 rfl rfl (C) (Nat.le_of_ble_eq_true rfl) ⟨rfl, rfl, rfl, rfl⟩ rfl rfl rfl (Nat.le_of_ble_eq_true rfl) rfl rfl ?_
    exact a_vret rfl rfl
  have Z9 := Q _ Z8
  show avA _ 47 0 [.ref 68, mvU, mvU] [] _ _
  refine a_aload_0 rfl rfl ?_
  refine a_geti rfl rfl rfl (fun _ _ _ => rfl) ?_
  refine a_as (y := nI (p)) h5 ?_
  refine a_istore_1 rfl rfl rfl ?_
  refine a_iconst (v := (nI 0)) rfl rfl rfl ?_
  refine a_istore_2 rfl rfl rfl ?_
  exact Z9
theorem e_cutSign {h : Nat → Nat → Int32} (K : KI h) (T : TP b k h) {p c : Nat} (hp : p < k) (h5 : h 68 5 = nI p) (h3 : h 68 3 = nI c) (lc : c ≤ 300) : ∃ h', avE 4 48 [.ref 68] (sX L t lt rt rp sw h gl) (none, sX L t lt rt rp sw h' gl) ∧ (if (b p = 60 ∨ b p = 62) ∧ p + 1 < k ∧ b (p + 1) = 61 then AT h h' c (p + 2) (pkT p 0 (sgC (b p) + 11)) else AT h h' c (p + 1) (pkT p 0 (sgC (b p)))) := by
  have hk := T.2.1
  obtain ⟨e1, l1⟩ := T.2.2 p hp
  have I := e_indexOf (L := L) (t := t) (lt := lt) (rt := rt) (rp := rp) (sw := sw) (gl := gl) K (b p) l1
  have s1 := sg_60 (b p)
  have s2 := sg_62 (b p)
  have s3 := sg_b (b p)
  have o1 : ∀ j, j ≠ 5 → mvPut h 68 5 (nI (p + 1)) 68 j = h 68 j := fun j hj => by rw [put_at]; simp [hj]
  have o2 : ∀ j, j ≠ 5 → mvPut (mvPut h 68 5 (nI (p + 1))) 68 5 (nI (p + 2)) 68 j = h 68 j := fun j hj => by rw [put_at, put_at]; simp [hj]
  by_cases w : (b p = 60 ∨ b p = 62) ∧ p + 1 < k ∧ b (p + 1) = 61
  · rw [if_neg (by omega)] at I
    obtain ⟨e2, l2⟩ := T.2.2 (p + 1) w.2.1
    obtain ⟨h', C, A⟩ := e_addToken (L := L) (t := t) (lt := lt) (rt := rt) (rp := rp) (sw := sw) (gl := gl) (h := mvPut (mvPut h 68 5 (nI (p + 1))) 68 5 (nI (p + 2))) ((o2 3 (by omega)).trans h3) (e := p + 2) (by rw [put_at]; simp) lc (tok := sgC (b p) + 11) (nu := 0) (pl := p) (by omega) (by omega) (by omega)
    refine ⟨h', ?_, by rw [if_pos w]; exact AT_pre (CF_put (CF_put CF_refl rfl) rfl) o2 A⟩
    rcases w.1 with q | q
    · have q' : sgC (b p) = 32 := s1.mpr q
      rw [q'] at I C
      show avA _ 48 0 [.ref 68, mvU, mvU, mvU, mvU] [] _ _
      refine a_aload_0 rfl rfl ?_
      refine a_geti rfl rfl rfl (fun _ _ _ => rfl) ?_
      refine a_as (y := nI (p)) h5 ?_
      refine a_istore_1 rfl rfl rfl ?_
      refine a_ldcS rfl rfl ?_
      refine a_aload_0 rfl rfl ?_
      refine a_getr rfl rfl rfl (fun _ _ _ => rfl) rfl ?_
      refine a_iload_1 rfl rfl ?_
      refine a_iald rfl rfl (Or.inl rfl) rfl (by omega) (by decide) ?_
      refine a_as (y := nI (b p)) e1 ?_
      refine a_i2c rfl rfl ?_
      refine a_as (y := nI (b p)) (ch_256 (b p) l1) ?_
      refine a_virtI rfl rfl (I) (Nat.le_of_ble_eq_true rfl) ⟨rfl, rfl, rfl, rfl⟩ rfl rfl rfl (Nat.le_of_ble_eq_true rfl) rfl rfl ?_
      refine a_istore_2 rfl rfl rfl ?_
      refine a_iload_2 rfl rfl ?_
      refine a_ifN_ge rfl rfl rfl (by omega) (fun _ => ?_) (fun c_19 => False.elim (by omega))
      refine a_bipush (v := (nI 32)) rfl rfl rfl ?_
      refine a_iload_2 rfl rfl ?_
      refine a_iaddN rfl rfl ?_
      refine a_as (y := nI (32)) rfl ?_
      refine a_istore_3 rfl rfl rfl ?_
      refine a_aload_0 rfl rfl ?_
      refine a_dup rfl rfl rfl ?_
      refine a_geti rfl rfl rfl (fun _ _ _ => rfl) ?_
      refine a_as (y := nI (p)) h5 ?_
      refine a_iconst (v := (nI 1)) rfl rfl rfl ?_
      refine a_iaddN rfl rfl ?_
      refine a_puti rfl rfl rfl rfl ?_
      refine a_iload_3 rfl rfl ?_
      refine a_bipush (v := (nI 32)) rfl rfl rfl ?_
      refine a_cmpN_eq rfl rfl rfl (by omega) (by omega) (fun _ => ?_) (fun c_45 => False.elim (by omega))
      refine a_iconst (v := (nI 1)) rfl rfl rfl ?_
      refine a_goto rfl rfl ?_
      refine a_istore_4 rfl rfl rfl ?_
      refine a_iload_4 rfl rfl ?_
      refine a_ifN_eq rfl rfl rfl (by omega) (fun c_63 => absurd c_63 (by decide)) (fun _ => ?_)
      refine a_aload_0 rfl rfl ?_
      refine a_geti rfl rfl rfl (fun _ _ _ => rfl) ?_
      refine a_as (y := nI (p + 1)) (by rw [put_at]; simp) ?_
      refine a_aload_0 rfl rfl ?_
      refine a_geti rfl rfl rfl (fun _ _ _ => rfl) ?_
      refine a_as (y := nI (k)) (by rw [put_at]; simp; exact T.1) ?_
      refine a_cmpN_ge rfl rfl rfl (by omega) (by omega) (fun c_74 => False.elim (by omega)) (fun _ => ?_)
      refine a_aload_0 rfl rfl ?_
      refine a_getr rfl rfl rfl (fun _ _ _ => rfl) rfl ?_
      refine a_aload_0 rfl rfl ?_
      refine a_geti rfl rfl rfl (fun _ _ _ => rfl) ?_
      refine a_as (y := nI (p + 1)) (by rw [put_at]; simp) ?_
      refine a_iald rfl rfl (Or.inl rfl) rfl (by omega) (by decide) ?_
      refine a_as (y := nI (b (p + 1))) e2 ?_
      refine a_bipush (v := (nI 61)) rfl rfl rfl ?_
      refine a_cmpN_ne rfl rfl rfl (by omega) (by omega) (fun c_88 => False.elim (by omega)) (fun _ => ?_)
      refine a_iload_3 rfl rfl ?_
      refine a_bipush (v := (nI 32)) rfl rfl rfl ?_
      refine a_cmpN_ne rfl rfl rfl (by omega) (by omega) (fun c_94 => False.elim (by omega)) (fun _ => ?_)
      refine a_bipush (v := (nI 43)) rfl rfl rfl ?_
      refine a_goto rfl rfl ?_
      refine a_istore_3 rfl rfl rfl ?_
      refine a_aload_0 rfl rfl ?_
      refine a_dup rfl rfl rfl ?_
      refine a_geti rfl rfl rfl (fun _ _ _ => rfl) ?_
      refine a_as (y := nI (p + 1)) (by rw [put_at]; simp) ?_
      refine a_iconst (v := (nI 1)) rfl rfl rfl ?_
      refine a_iaddN rfl rfl ?_
      refine a_puti rfl rfl rfl rfl ?_
      refine a_aload_0 rfl rfl ?_
      refine a_iload_3 rfl rfl ?_
      refine a_iconst (v := (nI 0)) rfl rfl rfl ?_
      refine a_iload_1 rfl rfl ?_
      refine a_virt0 rfl rfl (C) (Nat.le_of_ble_eq_true rfl) ⟨rfl, rfl, rfl, rfl⟩ rfl rfl rfl (Nat.le_of_ble_eq_true rfl) rfl rfl ?_
      exact a_vret rfl rfl
    · have q' : sgC (b p) = 33 := s2.mpr q
      rw [q'] at I C
      show avA _ 48 0 [.ref 68, mvU, mvU, mvU, mvU] [] _ _
      refine a_aload_0 rfl rfl ?_
      refine a_geti rfl rfl rfl (fun _ _ _ => rfl) ?_
      refine a_as (y := nI (p)) h5 ?_
      refine a_istore_1 rfl rfl rfl ?_
      refine a_ldcS rfl rfl ?_
      refine a_aload_0 rfl rfl ?_
      refine a_getr rfl rfl rfl (fun _ _ _ => rfl) rfl ?_
      refine a_iload_1 rfl rfl ?_
      refine a_iald rfl rfl (Or.inl rfl) rfl (by omega) (by decide) ?_
      refine a_as (y := nI (b p)) e1 ?_
      refine a_i2c rfl rfl ?_
      refine a_as (y := nI (b p)) (ch_256 (b p) l1) ?_
      refine a_virtI rfl rfl (I) (Nat.le_of_ble_eq_true rfl) ⟨rfl, rfl, rfl, rfl⟩ rfl rfl rfl (Nat.le_of_ble_eq_true rfl) rfl rfl ?_
      refine a_istore_2 rfl rfl rfl ?_
      refine a_iload_2 rfl rfl ?_
      refine a_ifN_ge rfl rfl rfl (by omega) (fun _ => ?_) (fun c_19 => False.elim (by omega))
      refine a_bipush (v := (nI 32)) rfl rfl rfl ?_
      refine a_iload_2 rfl rfl ?_
      refine a_iaddN rfl rfl ?_
      refine a_as (y := nI (33)) rfl ?_
      refine a_istore_3 rfl rfl rfl ?_
      refine a_aload_0 rfl rfl ?_
      refine a_dup rfl rfl rfl ?_
      refine a_geti rfl rfl rfl (fun _ _ _ => rfl) ?_
      refine a_as (y := nI (p)) h5 ?_
      refine a_iconst (v := (nI 1)) rfl rfl rfl ?_
      refine a_iaddN rfl rfl ?_
      refine a_puti rfl rfl rfl rfl ?_
      refine a_iload_3 rfl rfl ?_
      refine a_bipush (v := (nI 32)) rfl rfl rfl ?_
      refine a_cmpN_eq rfl rfl rfl (by omega) (by omega) (fun c_45 => False.elim (by omega)) (fun _ => ?_)
      refine a_iload_3 rfl rfl ?_
      refine a_bipush (v := (nI 33)) rfl rfl rfl ?_
      refine a_cmpN_ne rfl rfl rfl (by omega) (by omega) (fun c_51 => False.elim (by omega)) (fun _ => ?_)
      refine a_iconst (v := (nI 1)) rfl rfl rfl ?_
      refine a_goto rfl rfl ?_
      refine a_istore_4 rfl rfl rfl ?_
      refine a_iload_4 rfl rfl ?_
      refine a_ifN_eq rfl rfl rfl (by omega) (fun c_63 => absurd c_63 (by decide)) (fun _ => ?_)
      refine a_aload_0 rfl rfl ?_
      refine a_geti rfl rfl rfl (fun _ _ _ => rfl) ?_
      refine a_as (y := nI (p + 1)) (by rw [put_at]; simp) ?_
      refine a_aload_0 rfl rfl ?_
      refine a_geti rfl rfl rfl (fun _ _ _ => rfl) ?_
      refine a_as (y := nI (k)) (by rw [put_at]; simp; exact T.1) ?_
      refine a_cmpN_ge rfl rfl rfl (by omega) (by omega) (fun c_74 => False.elim (by omega)) (fun _ => ?_)
      refine a_aload_0 rfl rfl ?_
      refine a_getr rfl rfl rfl (fun _ _ _ => rfl) rfl ?_
      refine a_aload_0 rfl rfl ?_
      refine a_geti rfl rfl rfl (fun _ _ _ => rfl) ?_
      refine a_as (y := nI (p + 1)) (by rw [put_at]; simp) ?_
      refine a_iald rfl rfl (Or.inl rfl) rfl (by omega) (by decide) ?_
      refine a_as (y := nI (b (p + 1))) e2 ?_
      refine a_bipush (v := (nI 61)) rfl rfl rfl ?_
      refine a_cmpN_ne rfl rfl rfl (by omega) (by omega) (fun c_88 => False.elim (by omega)) (fun _ => ?_)
      refine a_iload_3 rfl rfl ?_
      refine a_bipush (v := (nI 32)) rfl rfl rfl ?_
      refine a_cmpN_ne rfl rfl rfl (by omega) (by omega) (fun _ => ?_) (fun c_94 => False.elim (by omega))
      refine a_bipush (v := (nI 44)) rfl rfl rfl ?_
      refine a_istore_3 rfl rfl rfl ?_
      refine a_aload_0 rfl rfl ?_
      refine a_dup rfl rfl rfl ?_
      refine a_geti rfl rfl rfl (fun _ _ _ => rfl) ?_
      refine a_as (y := nI (p + 1)) (by rw [put_at]; simp) ?_
      refine a_iconst (v := (nI 1)) rfl rfl rfl ?_
      refine a_iaddN rfl rfl ?_
      refine a_puti rfl rfl rfl rfl ?_
      refine a_aload_0 rfl rfl ?_
      refine a_iload_3 rfl rfl ?_
      refine a_iconst (v := (nI 0)) rfl rfl rfl ?_
      refine a_iload_1 rfl rfl ?_
      refine a_virt0 rfl rfl (C) (Nat.le_of_ble_eq_true rfl) ⟨rfl, rfl, rfl, rfl⟩ rfl rfl rfl (Nat.le_of_ble_eq_true rfl) rfl rfl ?_
      exact a_vret rfl rfl
  · obtain ⟨h', C, A⟩ := e_addToken (L := L) (t := t) (lt := lt) (rt := rt) (rp := rp) (sw := sw) (gl := gl) (h := mvPut h 68 5 (nI (p + 1))) ((o1 3 (by omega)).trans h3) (e := p + 1) (by rw [put_at]; simp) lc (tok := sgC (b p)) (nu := 0) (pl := p) (by omega) (by omega) (by omega)
    refine ⟨h', ?_, by rw [if_neg w]; exact AT_pre (CF_put CF_refl rfl) o1 A⟩
    by_cases d : sgC (b p) = 47
    · rw [if_pos d] at I
      rw [d] at C
      show avA _ 48 0 [.ref 68, mvU, mvU, mvU, mvU] [] _ _
      refine a_aload_0 rfl rfl ?_
      refine a_geti rfl rfl rfl (fun _ _ _ => rfl) ?_
      refine a_as (y := nI (p)) h5 ?_
      refine a_istore_1 rfl rfl rfl ?_
      refine a_ldcS rfl rfl ?_
      refine a_aload_0 rfl rfl ?_
      refine a_getr rfl rfl rfl (fun _ _ _ => rfl) rfl ?_
      refine a_iload_1 rfl rfl ?_
      refine a_iald rfl rfl (Or.inl rfl) rfl (by omega) (by decide) ?_
      refine a_as (y := nI (b p)) e1 ?_
      refine a_i2c rfl rfl ?_
      refine a_as (y := nI (b p)) (ch_256 (b p) l1) ?_
      refine a_virtI rfl rfl (I) (Nat.le_of_ble_eq_true rfl) ⟨rfl, rfl, rfl, rfl⟩ rfl rfl rfl (Nat.le_of_ble_eq_true rfl) rfl rfl ?_
      refine a_as (y := iI (-1)) rfl ?_
      refine a_istore_2 rfl rfl rfl ?_
      refine a_iload_2 rfl rfl ?_
      refine a_ifI_ge rfl rfl rfl (iI_toInt (by omega) (by omega)) (fun c_19 => False.elim (by omega)) (fun _ => ?_)
      refine a_bipush (v := (nI 47)) rfl rfl rfl ?_
      refine a_goto rfl rfl ?_
      refine a_istore_3 rfl rfl rfl ?_
      refine a_aload_0 rfl rfl ?_
      refine a_dup rfl rfl rfl ?_
      refine a_geti rfl rfl rfl (fun _ _ _ => rfl) ?_
      refine a_as (y := nI (p)) h5 ?_
      refine a_iconst (v := (nI 1)) rfl rfl rfl ?_
      refine a_iaddN rfl rfl ?_
      refine a_puti rfl rfl rfl rfl ?_
      refine a_iload_3 rfl rfl ?_
      refine a_bipush (v := (nI 32)) rfl rfl rfl ?_
      refine a_cmpN_eq rfl rfl rfl (by omega) (by omega) (fun c_45 => absurd c_45 (by decide)) (fun _ => ?_)
      refine a_iload_3 rfl rfl ?_
      refine a_bipush (v := (nI 33)) rfl rfl rfl ?_
      refine a_cmpN_ne rfl rfl rfl (by omega) (by omega) (fun _ => ?_) (fun c_51 => absurd c_51 (by decide))
      refine a_iconst (v := (nI 0)) rfl rfl rfl ?_
      refine a_istore_4 rfl rfl rfl ?_
      refine a_iload_4 rfl rfl ?_
      refine a_ifN_eq rfl rfl rfl (by omega) (fun _ => ?_) (fun c_63 => absurd c_63 (by decide))
      refine a_aload_0 rfl rfl ?_
      refine a_iload_3 rfl rfl ?_
      refine a_iconst (v := (nI 0)) rfl rfl rfl ?_
      refine a_iload_1 rfl rfl ?_
      refine a_virt0 rfl rfl (C) (Nat.le_of_ble_eq_true rfl) ⟨rfl, rfl, rfl, rfl⟩ rfl rfl rfl (Nat.le_of_ble_eq_true rfl) rfl rfl ?_
      exact a_vret rfl rfl
    · rw [if_neg d] at I
      have e32 : 32 + (sgC (b p) - 32) = sgC (b p) := by omega
      by_cases g : sgC (b p) = 32 ∨ sgC (b p) = 33
      · by_cases k1 : p + 1 < k
        · obtain ⟨e2, l2⟩ := T.2.2 (p + 1) k1
          have ne : b (p + 1) ≠ 61 := fun e => w ⟨by omega, k1, e⟩
          show avA _ 48 0 [.ref 68, mvU, mvU, mvU, mvU] [] _ _
          refine a_aload_0 rfl rfl ?_
          refine a_geti rfl rfl rfl (fun _ _ _ => rfl) ?_
          refine a_as (y := nI (p)) h5 ?_
          refine a_istore_1 rfl rfl rfl ?_
          refine a_ldcS rfl rfl ?_
          refine a_aload_0 rfl rfl ?_
          refine a_getr rfl rfl rfl (fun _ _ _ => rfl) rfl ?_
          refine a_iload_1 rfl rfl ?_
          refine a_iald rfl rfl (Or.inl rfl) rfl (by omega) (by decide) ?_
          refine a_as (y := nI (b p)) e1 ?_
          refine a_i2c rfl rfl ?_
          refine a_as (y := nI (b p)) (ch_256 (b p) l1) ?_
          refine a_virtI rfl rfl (I) (Nat.le_of_ble_eq_true rfl) ⟨rfl, rfl, rfl, rfl⟩ rfl rfl rfl (Nat.le_of_ble_eq_true rfl) rfl rfl ?_
          refine a_istore_2 rfl rfl rfl ?_
          refine a_iload_2 rfl rfl ?_
          refine a_ifN_ge rfl rfl rfl (by omega) (fun _ => ?_) (fun c_19 => False.elim (by omega))
          refine a_bipush (v := (nI 32)) rfl rfl rfl ?_
          refine a_iload_2 rfl rfl ?_
          refine a_iaddN rfl rfl ?_
          refine a_as (y := nI (sgC (b p))) (by rw [e32]) ?_
          refine a_istore_3 rfl rfl rfl ?_
          refine a_aload_0 rfl rfl ?_
          refine a_dup rfl rfl rfl ?_
          refine a_geti rfl rfl rfl (fun _ _ _ => rfl) ?_
          refine a_as (y := nI (p)) h5 ?_
          refine a_iconst (v := (nI 1)) rfl rfl rfl ?_
          refine a_iaddN rfl rfl ?_
          refine a_puti rfl rfl rfl rfl ?_
          refine a_iload_3 rfl rfl ?_
          refine a_bipush (v := (nI 32)) rfl rfl rfl ?_
          refine a_cmpN_eq rfl rfl rfl (by omega) (by omega) (fun c_45 => ?_) (fun c_45 => ?_)
          · refine a_iconst (v := (nI 1)) rfl rfl rfl ?_
            refine a_goto rfl rfl ?_
            refine a_istore_4 rfl rfl rfl ?_
            refine a_iload_4 rfl rfl ?_
            refine a_ifN_eq rfl rfl rfl (by omega) (fun c_63 => absurd c_63 (by decide)) (fun _ => ?_)
            refine a_aload_0 rfl rfl ?_
            refine a_geti rfl rfl rfl (fun _ _ _ => rfl) ?_
            refine a_as (y := nI (p + 1)) (by rw [put_at]; simp) ?_
            refine a_aload_0 rfl rfl ?_
            refine a_geti rfl rfl rfl (fun _ _ _ => rfl) ?_
            refine a_as (y := nI (k)) (by rw [put_at]; simp; exact T.1) ?_
            refine a_cmpN_ge rfl rfl rfl (by omega) (by omega) (fun c_74 => False.elim (by omega)) (fun _ => ?_)
            refine a_aload_0 rfl rfl ?_
            refine a_getr rfl rfl rfl (fun _ _ _ => rfl) rfl ?_
            refine a_aload_0 rfl rfl ?_
            refine a_geti rfl rfl rfl (fun _ _ _ => rfl) ?_
            refine a_as (y := nI (p + 1)) (by rw [put_at]; simp) ?_
            refine a_iald rfl rfl (Or.inl rfl) rfl (by omega) (by decide) ?_
            refine a_as (y := nI (b (p + 1))) e2 ?_
            refine a_bipush (v := (nI 61)) rfl rfl rfl ?_
            refine a_cmpN_ne rfl rfl rfl (by omega) (by omega) (fun _ => ?_) (fun c_88 => False.elim (by omega))
            refine a_aload_0 rfl rfl ?_
            refine a_iload_3 rfl rfl ?_
            refine a_iconst (v := (nI 0)) rfl rfl rfl ?_
            refine a_iload_1 rfl rfl ?_
            refine a_virt0 rfl rfl (C) (Nat.le_of_ble_eq_true rfl) ⟨rfl, rfl, rfl, rfl⟩ rfl rfl rfl (Nat.le_of_ble_eq_true rfl) rfl rfl ?_
            exact a_vret rfl rfl
          · refine a_iload_3 rfl rfl ?_
            refine a_bipush (v := (nI 33)) rfl rfl rfl ?_
            refine a_cmpN_ne rfl rfl rfl (by omega) (by omega) (fun c_51 => False.elim (by omega)) (fun _ => ?_)
            refine a_iconst (v := (nI 1)) rfl rfl rfl ?_
            refine a_goto rfl rfl ?_
            refine a_istore_4 rfl rfl rfl ?_
            refine a_iload_4 rfl rfl ?_
            refine a_ifN_eq rfl rfl rfl (by omega) (fun c_63 => absurd c_63 (by decide)) (fun _ => ?_)
            refine a_aload_0 rfl rfl ?_
            refine a_geti rfl rfl rfl (fun _ _ _ => rfl) ?_
            refine a_as (y := nI (p + 1)) (by rw [put_at]; simp) ?_
            refine a_aload_0 rfl rfl ?_
            refine a_geti rfl rfl rfl (fun _ _ _ => rfl) ?_
            refine a_as (y := nI (k)) (by rw [put_at]; simp; exact T.1) ?_
            refine a_cmpN_ge rfl rfl rfl (by omega) (by omega) (fun c_74 => False.elim (by omega)) (fun _ => ?_)
            refine a_aload_0 rfl rfl ?_
            refine a_getr rfl rfl rfl (fun _ _ _ => rfl) rfl ?_
            refine a_aload_0 rfl rfl ?_
            refine a_geti rfl rfl rfl (fun _ _ _ => rfl) ?_
            refine a_as (y := nI (p + 1)) (by rw [put_at]; simp) ?_
            refine a_iald rfl rfl (Or.inl rfl) rfl (by omega) (by decide) ?_
            refine a_as (y := nI (b (p + 1))) e2 ?_
            refine a_bipush (v := (nI 61)) rfl rfl rfl ?_
            refine a_cmpN_ne rfl rfl rfl (by omega) (by omega) (fun _ => ?_) (fun c_88 => False.elim (by omega))
            refine a_aload_0 rfl rfl ?_
            refine a_iload_3 rfl rfl ?_
            refine a_iconst (v := (nI 0)) rfl rfl rfl ?_
            refine a_iload_1 rfl rfl ?_
            refine a_virt0 rfl rfl (C) (Nat.le_of_ble_eq_true rfl) ⟨rfl, rfl, rfl, rfl⟩ rfl rfl rfl (Nat.le_of_ble_eq_true rfl) rfl rfl ?_
            exact a_vret rfl rfl
        · show avA _ 48 0 [.ref 68, mvU, mvU, mvU, mvU] [] _ _
          refine a_aload_0 rfl rfl ?_
          refine a_geti rfl rfl rfl (fun _ _ _ => rfl) ?_
          refine a_as (y := nI (p)) h5 ?_
          refine a_istore_1 rfl rfl rfl ?_
          refine a_ldcS rfl rfl ?_
          refine a_aload_0 rfl rfl ?_
          refine a_getr rfl rfl rfl (fun _ _ _ => rfl) rfl ?_
          refine a_iload_1 rfl rfl ?_
          refine a_iald rfl rfl (Or.inl rfl) rfl (by omega) (by decide) ?_
          refine a_as (y := nI (b p)) e1 ?_
          refine a_i2c rfl rfl ?_
          refine a_as (y := nI (b p)) (ch_256 (b p) l1) ?_
          refine a_virtI rfl rfl (I) (Nat.le_of_ble_eq_true rfl) ⟨rfl, rfl, rfl, rfl⟩ rfl rfl rfl (Nat.le_of_ble_eq_true rfl) rfl rfl ?_
          refine a_istore_2 rfl rfl rfl ?_
          refine a_iload_2 rfl rfl ?_
          refine a_ifN_ge rfl rfl rfl (by omega) (fun _ => ?_) (fun c_19 => False.elim (by omega))
          refine a_bipush (v := (nI 32)) rfl rfl rfl ?_
          refine a_iload_2 rfl rfl ?_
          refine a_iaddN rfl rfl ?_
          refine a_as (y := nI (sgC (b p))) (by rw [e32]) ?_
          refine a_istore_3 rfl rfl rfl ?_
          refine a_aload_0 rfl rfl ?_
          refine a_dup rfl rfl rfl ?_
          refine a_geti rfl rfl rfl (fun _ _ _ => rfl) ?_
          refine a_as (y := nI (p)) h5 ?_
          refine a_iconst (v := (nI 1)) rfl rfl rfl ?_
          refine a_iaddN rfl rfl ?_
          refine a_puti rfl rfl rfl rfl ?_
          refine a_iload_3 rfl rfl ?_
          refine a_bipush (v := (nI 32)) rfl rfl rfl ?_
          refine a_cmpN_eq rfl rfl rfl (by omega) (by omega) (fun c_45 => ?_) (fun c_45 => ?_)
          · refine a_iconst (v := (nI 1)) rfl rfl rfl ?_
            refine a_goto rfl rfl ?_
            refine a_istore_4 rfl rfl rfl ?_
            refine a_iload_4 rfl rfl ?_
            refine a_ifN_eq rfl rfl rfl (by omega) (fun c_63 => absurd c_63 (by decide)) (fun _ => ?_)
            refine a_aload_0 rfl rfl ?_
            refine a_geti rfl rfl rfl (fun _ _ _ => rfl) ?_
            refine a_as (y := nI (p + 1)) (by rw [put_at]; simp) ?_
            refine a_aload_0 rfl rfl ?_
            refine a_geti rfl rfl rfl (fun _ _ _ => rfl) ?_
            refine a_as (y := nI (k)) (by rw [put_at]; simp; exact T.1) ?_
            refine a_cmpN_ge rfl rfl rfl (by omega) (by omega) (fun _ => ?_) (fun c_74 => False.elim (by omega))
            refine a_aload_0 rfl rfl ?_
            refine a_iload_3 rfl rfl ?_
            refine a_iconst (v := (nI 0)) rfl rfl rfl ?_
            refine a_iload_1 rfl rfl ?_
            refine a_virt0 rfl rfl (C) (Nat.le_of_ble_eq_true rfl) ⟨rfl, rfl, rfl, rfl⟩ rfl rfl rfl (Nat.le_of_ble_eq_true rfl) rfl rfl ?_
            exact a_vret rfl rfl
          · refine a_iload_3 rfl rfl ?_
            refine a_bipush (v := (nI 33)) rfl rfl rfl ?_
            refine a_cmpN_ne rfl rfl rfl (by omega) (by omega) (fun c_51 => False.elim (by omega)) (fun _ => ?_)
            refine a_iconst (v := (nI 1)) rfl rfl rfl ?_
            refine a_goto rfl rfl ?_
            refine a_istore_4 rfl rfl rfl ?_
            refine a_iload_4 rfl rfl ?_
            refine a_ifN_eq rfl rfl rfl (by omega) (fun c_63 => absurd c_63 (by decide)) (fun _ => ?_)
            refine a_aload_0 rfl rfl ?_
            refine a_geti rfl rfl rfl (fun _ _ _ => rfl) ?_
            refine a_as (y := nI (p + 1)) (by rw [put_at]; simp) ?_
            refine a_aload_0 rfl rfl ?_
            refine a_geti rfl rfl rfl (fun _ _ _ => rfl) ?_
            refine a_as (y := nI (k)) (by rw [put_at]; simp; exact T.1) ?_
            refine a_cmpN_ge rfl rfl rfl (by omega) (by omega) (fun _ => ?_) (fun c_74 => False.elim (by omega))
            refine a_aload_0 rfl rfl ?_
            refine a_iload_3 rfl rfl ?_
            refine a_iconst (v := (nI 0)) rfl rfl rfl ?_
            refine a_iload_1 rfl rfl ?_
            refine a_virt0 rfl rfl (C) (Nat.le_of_ble_eq_true rfl) ⟨rfl, rfl, rfl, rfl⟩ rfl rfl rfl (Nat.le_of_ble_eq_true rfl) rfl rfl ?_
            exact a_vret rfl rfl
      · show avA _ 48 0 [.ref 68, mvU, mvU, mvU, mvU] [] _ _
        refine a_aload_0 rfl rfl ?_
        refine a_geti rfl rfl rfl (fun _ _ _ => rfl) ?_
        refine a_as (y := nI (p)) h5 ?_
        refine a_istore_1 rfl rfl rfl ?_
        refine a_ldcS rfl rfl ?_
        refine a_aload_0 rfl rfl ?_
        refine a_getr rfl rfl rfl (fun _ _ _ => rfl) rfl ?_
        refine a_iload_1 rfl rfl ?_
        refine a_iald rfl rfl (Or.inl rfl) rfl (by omega) (by decide) ?_
        refine a_as (y := nI (b p)) e1 ?_
        refine a_i2c rfl rfl ?_
        refine a_as (y := nI (b p)) (ch_256 (b p) l1) ?_
        refine a_virtI rfl rfl (I) (Nat.le_of_ble_eq_true rfl) ⟨rfl, rfl, rfl, rfl⟩ rfl rfl rfl (Nat.le_of_ble_eq_true rfl) rfl rfl ?_
        refine a_istore_2 rfl rfl rfl ?_
        refine a_iload_2 rfl rfl ?_
        refine a_ifN_ge rfl rfl rfl (by omega) (fun _ => ?_) (fun c_19 => False.elim (by omega))
        refine a_bipush (v := (nI 32)) rfl rfl rfl ?_
        refine a_iload_2 rfl rfl ?_
        refine a_iaddN rfl rfl ?_
        refine a_as (y := nI (sgC (b p))) (by rw [e32]) ?_
        refine a_istore_3 rfl rfl rfl ?_
        refine a_aload_0 rfl rfl ?_
        refine a_dup rfl rfl rfl ?_
        refine a_geti rfl rfl rfl (fun _ _ _ => rfl) ?_
        refine a_as (y := nI (p)) h5 ?_
        refine a_iconst (v := (nI 1)) rfl rfl rfl ?_
        refine a_iaddN rfl rfl ?_
        refine a_puti rfl rfl rfl rfl ?_
        refine a_iload_3 rfl rfl ?_
        refine a_bipush (v := (nI 32)) rfl rfl rfl ?_
        refine a_cmpN_eq rfl rfl rfl (by omega) (by omega) (fun c_45 => False.elim (by omega)) (fun _ => ?_)
        refine a_iload_3 rfl rfl ?_
        refine a_bipush (v := (nI 33)) rfl rfl rfl ?_
        refine a_cmpN_ne rfl rfl rfl (by omega) (by omega) (fun _ => ?_) (fun c_51 => False.elim (by omega))
        refine a_iconst (v := (nI 0)) rfl rfl rfl ?_
        refine a_istore_4 rfl rfl rfl ?_
        refine a_iload_4 rfl rfl ?_
        refine a_ifN_eq rfl rfl rfl (by omega) (fun _ => ?_) (fun c_63 => absurd c_63 (by decide))
        refine a_aload_0 rfl rfl ?_
        refine a_iload_3 rfl rfl ?_
        refine a_iconst (v := (nI 0)) rfl rfl rfl ?_
        refine a_iload_1 rfl rfl ?_
        refine a_virt0 rfl rfl (C) (Nat.le_of_ble_eq_true rfl) ⟨rfl, rfl, rfl, rfl⟩ rfl rfl rfl (Nat.le_of_ble_eq_true rfl) rfl rfl ?_
        exact a_vret rfl rfl
/-- the tokens, n of them before the last -/
def TK (b : Nat → Nat) (k n : Nat) (h : Nat → Nat → Int32) : Prop := (∀ i, i ≤ n → h 70 i = pkT (tP b k i) (tk b k (tP b k i)).2.1 (tk b k (tP b k i)).1) ∧ tP b k n = k ∧ (∀ i, i < n → tP b k i < k) ∧ n ≤ k ∧ h 68 3 = nI (n + 1)
theorem l_cut (m : Nat) : ∀ (i p c : Nat) (y : Value) (h : Nat → Nat → Int32), k ≤ p + m → p ≤ k → i ≤ p → c ≤ p → KI h → TP b k h → h 68 5 = nI p → h 68 3 = nI c → rn isB b k p = tP b k c → (∀ i, i < c → h 70 i = pkT (tP b k i) (tk b k (tP b k i)).2.1 (tk b k (tP b k i)).1 ∧ tP b k i < k) → ∃ h' n, avA 6 40 17 [.ref 68, .int (nI i), y] [] (sX L t lt rt rp sw h gl) (none, sX L t lt rt rp sw h' gl) ∧ CF [68, 70] h h' ∧ (∀ j, j ≠ 3 → j ≠ 5 → h' 68 j = h 68 j) ∧ TK b k n h' := by
  have EN : ∀ (i p c : Nat) (y : Value) (h : Nat → Nat → Int32), p = k → i ≤ p → c ≤ p → TP b k h → h 68 5 = nI p → h 68 3 = nI c → rn isB b k p = tP b k c → (∀ i, i < c → h 70 i = pkT (tP b k i) (tk b k (tP b k i)).2.1 (tk b k (tP b k i)).1 ∧ tP b k i < k) → ∃ h' n, avA 6 40 17 [.ref 68, .int (nI i), y] [] (sX L t lt rt rp sw h gl) (none, sX L t lt rt rp sw h' gl) ∧ CF [68, 70] h h' ∧ (∀ j, j ≠ 3 → j ≠ 5 → h' 68 j = h 68 j) ∧ TK b k n h' := by
    intro i p c y h ep hi hc T h5 h3 e X
    have hk := T.2.1
    rw [rn_e (fun a => by omega)] at e
    obtain ⟨h', C, a1, a2, a3, a4, a5, a6⟩ := e_addToken (L := L) (t := t) (lt := lt) (rt := rt) (rp := rp) (sw := sw) (gl := gl) h3 h5 (by omega) (tok := 46) (nu := 0) (pl := k) (by omega) (by omega) (by omega)
    refine ⟨h', c, ?_, a1, a6, fun j hj => ?_, by omega, fun j hj => (X j hj).2, by omega, a3⟩
    · refine a_iload_1 rfl rfl ?_
      refine a_sipush (v := (nI 300)) rfl rfl rfl ?_
      refine a_cmpN_ge rfl rfl rfl (by omega) (by omega) (fun c_21 => ?_) (fun c_21 => ?_)
      · refine a_aload_0 rfl rfl ?_
        refine a_bipush (v := (nI 46)) rfl rfl rfl ?_
        refine a_iconst (v := (nI 0)) rfl rfl rfl ?_
        refine a_aload_0 rfl rfl ?_
        refine a_geti rfl rfl rfl (fun _ _ _ => rfl) ?_
        refine a_as (y := nI (k)) T.1 ?_
        refine a_virt0 rfl rfl (C) (Nat.le_of_ble_eq_true rfl) ⟨rfl, rfl, rfl, rfl⟩ rfl rfl rfl (Nat.le_of_ble_eq_true rfl) rfl rfl ?_
        exact a_vret rfl rfl
      · refine a_aload_0 rfl rfl ?_
        refine a_geti rfl rfl rfl (fun _ _ _ => rfl) ?_
        refine a_as (y := nI (p)) h5 ?_
        refine a_aload_0 rfl rfl ?_
        refine a_geti rfl rfl rfl (fun _ _ _ => rfl) ?_
        refine a_as (y := nI (k)) T.1 ?_
        refine a_cmpN_ge rfl rfl rfl (by omega) (by omega) (fun _ => ?_) (fun c_32 => False.elim (by omega))
        refine a_aload_0 rfl rfl ?_
        refine a_bipush (v := (nI 46)) rfl rfl rfl ?_
        refine a_iconst (v := (nI 0)) rfl rfl rfl ?_
        refine a_aload_0 rfl rfl ?_
        refine a_geti rfl rfl rfl (fun _ _ _ => rfl) ?_
        refine a_as (y := nI (k)) T.1 ?_
        refine a_virt0 rfl rfl (C) (Nat.le_of_ble_eq_true rfl) ⟨rfl, rfl, rfl, rfl⟩ rfl rfl rfl (Nat.le_of_ble_eq_true rfl) rfl rfl ?_
        exact a_vret rfl rfl
    · by_cases q : j = c
      · have e2 : tk b k k = (46, 0, k) := by unfold tk; rw [if_pos (Nat.le_refl _)]
        rw [q, a4, ← e, ep, e2]
      · rw [a5 j q]; exact (X j (by omega)).1
  induction m with
  | zero =>
    intro i p c y h hm hp hi hc K T h5 h3 e X
    exact EN i p c y h (by omega) hi hc T h5 h3 e X
  | succ m ih =>
    intro i p c y h hm hp hi hc K T h5 h3 e X
    have hk := T.2.1
    by_cases c0 : p < k
    · obtain ⟨e1, l1⟩ := T.2.2 p c0
      by_cases cB : isB (b p) = true
      · obtain ⟨h', n, Z, z1, z2, z3⟩ := ih (i + 1) (p + 1) c (.int (nI (b p))) (mvPut h 68 5 (nI (p + 1))) (by omega) (by omega) (by omega) (by omega) (KI_fr K (CF_put (S := [68]) CF_refl rfl) rfl) (TP_fr T (by rw [put_at]; simp) rfl) (by rw [put_at]; simp) (by rw [put_at]; simp; exact h3) (by rw [← rn_s ⟨c0, cB⟩]; exact e) X
        refine ⟨h', n, ?_, CF_trans (CF_put CF_refl rfl) z1, fun j j3 j5 => by rw [z2 j j3 j5, put_at]; simp [j5], z3⟩
        refine a_iload_1 rfl rfl ?_
        refine a_sipush (v := (nI 300)) rfl rfl rfl ?_
        refine a_cmpN_ge rfl rfl rfl (by omega) (by omega) (fun c_21 => False.elim (by omega)) (fun _ => ?_)
        refine a_aload_0 rfl rfl ?_
        refine a_geti rfl rfl rfl (fun _ _ _ => rfl) ?_
        refine a_as (y := nI (p)) h5 ?_
        refine a_aload_0 rfl rfl ?_
        refine a_geti rfl rfl rfl (fun _ _ _ => rfl) ?_
        refine a_as (y := nI (k)) T.1 ?_
        refine a_cmpN_ge rfl rfl rfl (by omega) (by omega) (fun c_32 => False.elim (by omega)) (fun _ => ?_)
        refine a_aload_0 rfl rfl ?_
        refine a_getr rfl rfl rfl (fun _ _ _ => rfl) rfl ?_
        refine a_aload_0 rfl rfl ?_
        refine a_geti rfl rfl rfl (fun _ _ _ => rfl) ?_
        refine a_as (y := nI (p)) h5 ?_
        refine a_iald rfl rfl (Or.inl rfl) rfl (by omega) (by decide) ?_
        refine a_as (y := nI (b p)) e1 ?_
        refine a_istore_2 rfl rfl rfl ?_
        refine a_iload_2 rfl rfl ?_
        refine a_statI rfl rfl (t_isBlank (b p) l1) (Nat.le_of_ble_eq_true rfl) ⟨rfl, rfl, rfl⟩ rfl rfl rfl (Nat.le_of_ble_eq_true rfl) rfl ?_
        refine a_ifb_eq rfl rfl rfl (fun c_49 => by first | exact absurd c_49 (not_not_intro cB) | exact absurd (not_not_intro cB) c_49) (fun _ => ?_)
        refine a_aload_0 rfl rfl ?_
        refine a_dup rfl rfl rfl ?_
        refine a_geti rfl rfl rfl (fun _ _ _ => rfl) ?_
        refine a_as (y := nI (p)) h5 ?_
        refine a_iconst (v := (nI 1)) rfl rfl rfl ?_
        refine a_iaddN rfl rfl ?_
        refine a_puti rfl rfl rfl rfl ?_
        refine a_goto rfl rfl ?_
        refine a_iinc_1 rfl rfl (nI_inc _ _) rfl ?_
        refine a_goto rfl rfl ?_
        exact Z
      · have ep : tP b k c = p := by rw [← e, rn_e (fun a => cB a.2)]
        obtain ⟨_, _, tl⟩ := tk_lt b k p
        obtain ⟨t1, t2⟩ := tl c0
        have GO : ∀ h1, AT h h1 c (tk b k p).2.2 (pkT p (tk b k p).2.1 (tk b k p).1) → ∃ h' n, avA 6 40 17 [.ref 68, .int (nI (i + 1)), .int (nI (b p))] [] (sX L t lt rt rp sw h1 gl) (none, sX L t lt rt rp sw h' gl) ∧ CF [68, 70] h h' ∧ (∀ j, j ≠ 3 → j ≠ 5 → h' 68 j = h 68 j) ∧ TK b k n h' := by
          rintro h1 ⟨a1, a2, a3, a4, a5, a6⟩
          obtain ⟨h', n, Z, z1, z2, z3⟩ := ih (i + 1) (tk b k p).2.2 (c + 1) (.int (nI (b p))) h1 (by omega) t2 (by omega) (by omega) (KI_fr K a1 rfl) (TP_fr T (a6 1 (by omega) (by omega)) (a1 69 rfl)) a2 a3 (by rw [tP, ep]) (fun j hj => by
            by_cases q : j = c
            · subst q; rw [ep, a4]; exact ⟨rfl, c0⟩
            · rw [a5 j q]; exact X j (by omega))
          exact ⟨h', n, Z, CF_trans a1 z1, fun j j3 j5 => by rw [z2 j j3 j5, a6 j j3 j5], z3⟩
        by_cases cL : isL (b p) = true
        · have et : tk b k p = (wc b p (rn isL b k p), 0, rn isL b k p) := by unfold tk; rw [if_neg (by omega), if_pos cL]
          obtain ⟨h1, C, A⟩ := e_cutWord (L := L) (t := t) (lt := lt) (rt := rt) (rp := rp) (sw := sw) (gl := gl) K T hp h5 h3 (by omega)
          obtain ⟨h', n, Z, z⟩ := GO h1 (by rw [et]; exact A)
          refine ⟨h', n, ?_, z⟩
          refine a_iload_1 rfl rfl ?_
          refine a_sipush (v := (nI 300)) rfl rfl rfl ?_
          refine a_cmpN_ge rfl rfl rfl (by omega) (by omega) (fun c_21 => False.elim (by omega)) (fun _ => ?_)
          refine a_aload_0 rfl rfl ?_
          refine a_geti rfl rfl rfl (fun _ _ _ => rfl) ?_
          refine a_as (y := nI (p)) h5 ?_
          refine a_aload_0 rfl rfl ?_
          refine a_geti rfl rfl rfl (fun _ _ _ => rfl) ?_
          refine a_as (y := nI (k)) T.1 ?_
          refine a_cmpN_ge rfl rfl rfl (by omega) (by omega) (fun c_32 => False.elim (by omega)) (fun _ => ?_)
          refine a_aload_0 rfl rfl ?_
          refine a_getr rfl rfl rfl (fun _ _ _ => rfl) rfl ?_
          refine a_aload_0 rfl rfl ?_
          refine a_geti rfl rfl rfl (fun _ _ _ => rfl) ?_
          refine a_as (y := nI (p)) h5 ?_
          refine a_iald rfl rfl (Or.inl rfl) rfl (by omega) (by decide) ?_
          refine a_as (y := nI (b p)) e1 ?_
          refine a_istore_2 rfl rfl rfl ?_
          refine a_iload_2 rfl rfl ?_
          refine a_statI rfl rfl (t_isBlank (b p) l1) (Nat.le_of_ble_eq_true rfl) ⟨rfl, rfl, rfl⟩ rfl rfl rfl (Nat.le_of_ble_eq_true rfl) rfl ?_
          refine a_ifb_eq rfl rfl rfl (fun _ => ?_) (fun c_49 => by first | exact absurd cB c_49 | exact absurd c_49 cB)
          refine a_iload_2 rfl rfl ?_
          refine a_statI rfl rfl (t_isLetter (b p) l1) (Nat.le_of_ble_eq_true rfl) ⟨rfl, rfl, rfl⟩ rfl rfl rfl (Nat.le_of_ble_eq_true rfl) rfl ?_
          refine a_ifb_eq rfl rfl rfl (fun c_69 => by first | exact absurd c_69 (not_not_intro cL) | exact absurd (not_not_intro cL) c_69) (fun _ => ?_)
          refine a_aload_0 rfl rfl ?_
          refine a_virt0 rfl rfl (C) (Nat.le_of_ble_eq_true rfl) ⟨rfl, rfl, rfl, rfl⟩ rfl rfl rfl (Nat.le_of_ble_eq_true rfl) rfl rfl ?_
          refine a_goto rfl rfl ?_
          refine a_iinc_1 rfl rfl (nI_inc _ _) rfl ?_
          refine a_goto rfl rfl ?_
          exact Z
        · by_cases cD : isD (b p) = true
          · have et : tk b k p = (45, nv b k p 0, rn isD b k p) := by unfold tk; rw [if_neg (by omega), if_neg cL, if_pos cD]
            obtain ⟨h1, C, A⟩ := e_cutNumber (L := L) (t := t) (lt := lt) (rt := rt) (rp := rp) (sw := sw) (gl := gl) T hp h5 h3 (by omega)
            obtain ⟨h', n, Z, z⟩ := GO h1 (by rw [et]; exact A)
            refine ⟨h', n, ?_, z⟩
            refine a_iload_1 rfl rfl ?_
            refine a_sipush (v := (nI 300)) rfl rfl rfl ?_
            refine a_cmpN_ge rfl rfl rfl (by omega) (by omega) (fun c_21 => False.elim (by omega)) (fun _ => ?_)
            refine a_aload_0 rfl rfl ?_
            refine a_geti rfl rfl rfl (fun _ _ _ => rfl) ?_
            refine a_as (y := nI (p)) h5 ?_
            refine a_aload_0 rfl rfl ?_
            refine a_geti rfl rfl rfl (fun _ _ _ => rfl) ?_
            refine a_as (y := nI (k)) T.1 ?_
            refine a_cmpN_ge rfl rfl rfl (by omega) (by omega) (fun c_32 => False.elim (by omega)) (fun _ => ?_)
            refine a_aload_0 rfl rfl ?_
            refine a_getr rfl rfl rfl (fun _ _ _ => rfl) rfl ?_
            refine a_aload_0 rfl rfl ?_
            refine a_geti rfl rfl rfl (fun _ _ _ => rfl) ?_
            refine a_as (y := nI (p)) h5 ?_
            refine a_iald rfl rfl (Or.inl rfl) rfl (by omega) (by decide) ?_
            refine a_as (y := nI (b p)) e1 ?_
            refine a_istore_2 rfl rfl rfl ?_
            refine a_iload_2 rfl rfl ?_
            refine a_statI rfl rfl (t_isBlank (b p) l1) (Nat.le_of_ble_eq_true rfl) ⟨rfl, rfl, rfl⟩ rfl rfl rfl (Nat.le_of_ble_eq_true rfl) rfl ?_
            refine a_ifb_eq rfl rfl rfl (fun _ => ?_) (fun c_49 => by first | exact absurd cB c_49 | exact absurd c_49 cB)
            refine a_iload_2 rfl rfl ?_
            refine a_statI rfl rfl (t_isLetter (b p) l1) (Nat.le_of_ble_eq_true rfl) ⟨rfl, rfl, rfl⟩ rfl rfl rfl (Nat.le_of_ble_eq_true rfl) rfl ?_
            refine a_ifb_eq rfl rfl rfl (fun _ => ?_) (fun c_69 => by first | exact absurd cL c_69 | exact absurd c_69 cL)
            refine a_iload_2 rfl rfl ?_
            refine a_statI rfl rfl (t_isDigit (b p) l1) (Nat.le_of_ble_eq_true rfl) ⟨rfl, rfl, rfl⟩ rfl rfl rfl (Nat.le_of_ble_eq_true rfl) rfl ?_
            refine a_ifb_eq rfl rfl rfl (fun c_83 => by first | exact absurd c_83 (not_not_intro cD) | exact absurd (not_not_intro cD) c_83) (fun _ => ?_)
            refine a_aload_0 rfl rfl ?_
            refine a_virt0 rfl rfl (C) (Nat.le_of_ble_eq_true rfl) ⟨rfl, rfl, rfl, rfl⟩ rfl rfl rfl (Nat.le_of_ble_eq_true rfl) rfl rfl ?_
            refine a_goto rfl rfl ?_
            refine a_iinc_1 rfl rfl (nI_inc _ _) rfl ?_
            refine a_goto rfl rfl ?_
            exact Z
          · obtain ⟨h1, C, A⟩ := e_cutSign (L := L) (t := t) (lt := lt) (rt := rt) (rp := rp) (sw := sw) (gl := gl) K T c0 h5 h3 (by omega)
            obtain ⟨h', n, Z, z⟩ := GO h1 (by
              unfold tk
              rw [if_neg (by omega), if_neg cL, if_neg cD]
              split
              · rename_i w; rw [if_pos w] at A; exact A
              · rename_i w; rw [if_neg w] at A; exact A)
            refine ⟨h', n, ?_, z⟩
            refine a_iload_1 rfl rfl ?_
            refine a_sipush (v := (nI 300)) rfl rfl rfl ?_
            refine a_cmpN_ge rfl rfl rfl (by omega) (by omega) (fun c_21 => False.elim (by omega)) (fun _ => ?_)
            refine a_aload_0 rfl rfl ?_
            refine a_geti rfl rfl rfl (fun _ _ _ => rfl) ?_
            refine a_as (y := nI (p)) h5 ?_
            refine a_aload_0 rfl rfl ?_
            refine a_geti rfl rfl rfl (fun _ _ _ => rfl) ?_
            refine a_as (y := nI (k)) T.1 ?_
            refine a_cmpN_ge rfl rfl rfl (by omega) (by omega) (fun c_32 => False.elim (by omega)) (fun _ => ?_)
            refine a_aload_0 rfl rfl ?_
            refine a_getr rfl rfl rfl (fun _ _ _ => rfl) rfl ?_
            refine a_aload_0 rfl rfl ?_
            refine a_geti rfl rfl rfl (fun _ _ _ => rfl) ?_
            refine a_as (y := nI (p)) h5 ?_
            refine a_iald rfl rfl (Or.inl rfl) rfl (by omega) (by decide) ?_
            refine a_as (y := nI (b p)) e1 ?_
            refine a_istore_2 rfl rfl rfl ?_
            refine a_iload_2 rfl rfl ?_
            refine a_statI rfl rfl (t_isBlank (b p) l1) (Nat.le_of_ble_eq_true rfl) ⟨rfl, rfl, rfl⟩ rfl rfl rfl (Nat.le_of_ble_eq_true rfl) rfl ?_
            refine a_ifb_eq rfl rfl rfl (fun _ => ?_) (fun c_49 => by first | exact absurd cB c_49 | exact absurd c_49 cB)
            refine a_iload_2 rfl rfl ?_
            refine a_statI rfl rfl (t_isLetter (b p) l1) (Nat.le_of_ble_eq_true rfl) ⟨rfl, rfl, rfl⟩ rfl rfl rfl (Nat.le_of_ble_eq_true rfl) rfl ?_
            refine a_ifb_eq rfl rfl rfl (fun _ => ?_) (fun c_69 => by first | exact absurd cL c_69 | exact absurd c_69 cL)
            refine a_iload_2 rfl rfl ?_
            refine a_statI rfl rfl (t_isDigit (b p) l1) (Nat.le_of_ble_eq_true rfl) ⟨rfl, rfl, rfl⟩ rfl rfl rfl (Nat.le_of_ble_eq_true rfl) rfl ?_
            refine a_ifb_eq rfl rfl rfl (fun _ => ?_) (fun c_83 => by first | exact absurd cD c_83 | exact absurd c_83 cD)
            refine a_aload_0 rfl rfl ?_
            refine a_virt0 rfl rfl (C) (Nat.le_of_ble_eq_true rfl) ⟨rfl, rfl, rfl, rfl⟩ rfl rfl rfl (Nat.le_of_ble_eq_true rfl) rfl rfl ?_
            refine a_iinc_1 rfl rfl (nI_inc _ _) rfl ?_
            refine a_goto rfl rfl ?_
            exact Z
    · exact EN i p c y h (by omega) hi hc T h5 h3 e X
theorem e_cut {h : Nat → Nat → Int32} (K : KI h) (T : TP b k h) : ∃ h' n, avE 6 40 [.ref 68] (sX L t lt rt rp sw h gl) (none, sX L t lt rt rp sw h' gl) ∧ CF [68, 70] h h' ∧ h' 68 4 = nI 0 ∧ (∀ j, j ≠ 3 → j ≠ 4 → j ≠ 5 → h' 68 j = h 68 j) ∧ TK b k n h' := by
  obtain ⟨h', n, Z, z1, z2, z3⟩ := l_cut (L := L) (t := t) (lt := lt) (rt := rt) (rp := rp) (sw := sw) (gl := gl) (b := b) (k := k) k 0 0 0 mvU (mvPut (mvPut (mvPut h 68 3 (nI 0)) 68 4 (nI 0)) 68 5 (nI 0)) (by omega) (by omega) (by omega) (by omega) (KI_fr K (CF_put (S := [68]) (CF_put (CF_put CF_refl rfl) rfl) rfl) rfl) (TP_fr T (by rw [put_at, put_at, put_at]; simp) rfl) (by rw [put_at]; simp) (by rw [put_at, put_at, put_at]; simp) rfl (fun i hi => absurd hi (by omega))
  refine ⟨h', n, ?_, CF_trans (CF_put (CF_put (CF_put CF_refl rfl) rfl) rfl) z1, by rw [z2 4 (by omega) (by omega), put_at, put_at]; simp, fun j j3 j4 j5 => by rw [z2 j j3 j5, put_at, put_at, put_at]; simp [j3, j4, j5], z3⟩
  show avA _ 40 0 [.ref 68, mvU, mvU] [] _ _
  refine a_aload_0 rfl rfl ?_
  refine a_iconst (v := (nI 0)) rfl rfl rfl ?_
  refine a_puti rfl rfl rfl rfl ?_
  refine a_aload_0 rfl rfl ?_
  refine a_iconst (v := (nI 0)) rfl rfl rfl ?_
  refine a_puti rfl rfl rfl rfl ?_
  refine a_aload_0 rfl rfl ?_
  refine a_iconst (v := (nI 0)) rfl rfl rfl ?_
  refine a_puti rfl rfl rfl rfl ?_
  refine a_iconst (v := (nI 0)) rfl rfl rfl ?_
  refine a_istore_1 rfl rfl rfl ?_
  exact Z
end CV
