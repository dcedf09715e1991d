/-! SETS OF CELLS: neighbours, what is reached -/
theorem tb_left : ∀ j, j < 32 → tb (-17043522) j = !(decide (j % 6 = 0) && decide (j < 30)) := by decide +kernel
theorem tb_right : ∀ j, j < 32 → tb (-545392673) j = !(decide (j % 6 = 5) && decide (j < 30)) := by decide +kernel
theorem tb_all : ∀ j, j < 32 → tb (nI 1073741823) j = decide (j < 30) := by decide +kernel
theorem bs_msb (p : Nat → Bool) : (bsI 30 p).toBitVec.msb = false := by
  rw [tb_msb, tb_bs (by omega)]
  simp
theorem bs_besides (p : Nat → Bool) : bsI 30 p <<< (nI 6 &&& 31) &&& nI 1073741823 ||| bsI 30 p >>> (nI 6 &&& 31) ||| (bsI 30 p &&& (-545392673)) <<< (nI 1 &&& 31) ||| (bsI 30 p &&& (-17043522)) >>> (nI 1 &&& 31) = bsI 30 (nb p) := by
  apply tb_ext
  intro j hj
  have m2 : (bsI 30 p &&& (-17043522)).toBitVec.msb = false := by
    rw [tb_msb, tb_and, tb_bs (by omega)]
    simp
  rw [tb_or, tb_or, tb_or, tb_and, tb_shl _ (by omega), tb_shr _ (by omega), tb_shl _ (by omega), tb_shr _ (by omega), bs_msb, m2, tb_all j hj, tb_and, tb_and, tb_bs (by omega), tb_bs (by omega), tb_bs (by omega), tb_bs (by omega), tb_bs (by omega), tb_right (j - 1) (by omega)]
  have hL : ∀ j, 1 + j < 32 → tb (-17043522) (1 + j) = !(decide ((1 + j) % 6 = 0) && decide (1 + j < 30)) := fun j h => tb_left (1 + j) h
  match j, hj with
  | 0, _ => rw [hL 0 (by decide)]; simp [nb, Bool.or_comm, Bool.or_assoc, Bool.or_left_comm]
  | 1, _ => rw [hL 1 (by decide)]; simp [nb, Bool.or_comm, Bool.or_assoc, Bool.or_left_comm]
  | 2, _ => rw [hL 2 (by decide)]; simp [nb, Bool.or_comm, Bool.or_assoc, Bool.or_left_comm]
  | 3, _ => rw [hL 3 (by decide)]; simp [nb, Bool.or_comm, Bool.or_assoc, Bool.or_left_comm]
  | 4, _ => rw [hL 4 (by decide)]; simp [nb, Bool.or_comm, Bool.or_assoc, Bool.or_left_comm]
  | 5, _ => rw [hL 5 (by decide)]; simp [nb, Bool.or_comm, Bool.or_assoc, Bool.or_left_comm]
  | 6, _ => rw [hL 6 (by decide)]; simp [nb, Bool.or_comm, Bool.or_assoc, Bool.or_left_comm]
  | 7, _ => rw [hL 7 (by decide)]; simp [nb, Bool.or_comm, Bool.or_assoc, Bool.or_left_comm]
  | 8, _ => rw [hL 8 (by decide)]; simp [nb, Bool.or_comm, Bool.or_assoc, Bool.or_left_comm]
  | 9, _ => rw [hL 9 (by decide)]; simp [nb, Bool.or_comm, Bool.or_assoc, Bool.or_left_comm]
  | 10, _ => rw [hL 10 (by decide)]; simp [nb, Bool.or_comm, Bool.or_assoc, Bool.or_left_comm]
  | 11, _ => rw [hL 11 (by decide)]; simp [nb, Bool.or_comm, Bool.or_assoc, Bool.or_left_comm]
  | 12, _ => rw [hL 12 (by decide)]; simp [nb, Bool.or_comm, Bool.or_assoc, Bool.or_left_comm]
  | 13, _ => rw [hL 13 (by decide)]; simp [nb, Bool.or_comm, Bool.or_assoc, Bool.or_left_comm]
  | 14, _ => rw [hL 14 (by decide)]; simp [nb, Bool.or_comm, Bool.or_assoc, Bool.or_left_comm]
  | 15, _ => rw [hL 15 (by decide)]; simp [nb, Bool.or_comm, Bool.or_assoc, Bool.or_left_comm]
  | 16, _ => rw [hL 16 (by decide)]; simp [nb, Bool.or_comm, Bool.or_assoc, Bool.or_left_comm]
  | 17, _ => rw [hL 17 (by decide)]; simp [nb, Bool.or_comm, Bool.or_assoc, Bool.or_left_comm]
  | 18, _ => rw [hL 18 (by decide)]; simp [nb, Bool.or_comm, Bool.or_assoc, Bool.or_left_comm]
  | 19, _ => rw [hL 19 (by decide)]; simp [nb, Bool.or_comm, Bool.or_assoc, Bool.or_left_comm]
  | 20, _ => rw [hL 20 (by decide)]; simp [nb, Bool.or_comm, Bool.or_assoc, Bool.or_left_comm]
  | 21, _ => rw [hL 21 (by decide)]; simp [nb, Bool.or_comm, Bool.or_assoc, Bool.or_left_comm]
  | 22, _ => rw [hL 22 (by decide)]; simp [nb, Bool.or_comm, Bool.or_assoc, Bool.or_left_comm]
  | 23, _ => rw [hL 23 (by decide)]; simp [nb, Bool.or_comm, Bool.or_assoc, Bool.or_left_comm]
  | 24, _ => rw [hL 24 (by decide)]; simp [nb, Bool.or_comm, Bool.or_assoc, Bool.or_left_comm]
  | 25, _ => rw [hL 25 (by decide)]; simp [nb, Bool.or_comm, Bool.or_assoc, Bool.or_left_comm]
  | 26, _ => rw [hL 26 (by decide)]; simp [nb, Bool.or_comm, Bool.or_assoc, Bool.or_left_comm]
  | 27, _ => rw [hL 27 (by decide)]; simp [nb, Bool.or_comm, Bool.or_assoc, Bool.or_left_comm]
  | 28, _ => rw [hL 28 (by decide)]; simp [nb, Bool.or_comm, Bool.or_assoc, Bool.or_left_comm]
  | 29, _ => rw [hL 29 (by decide)]; simp [nb, Bool.or_comm, Bool.or_assoc, Bool.or_left_comm]
  | 30, _ => rw [hL 30 (by decide)]; simp [nb, Bool.or_comm, Bool.or_assoc, Bool.or_left_comm]
  | 31, _ => simp [nb]
  | n + 32, h => exact absurd h (by omega)
theorem e_besides {σ : mvSt} (p : Nat → Bool) : avE 0 95 [.int (bsI 30 p)] σ (some (.int (bsI 30 (nb p))), σ) := by
  show avA _ 95 0 [.int (bsI 30 p), mvU] [] _ _
  refine a_iload_0 rfl rfl ?_
  refine a_bipush (v := (nI 6)) rfl rfl rfl ?_
  refine a_ishl rfl rfl ?_
  refine a_ldcw (v := (nI 1073741823)) rfl rfl rfl ?_
  refine a_iand rfl rfl ?_
  refine a_iload_0 rfl rfl ?_
  refine a_bipush (v := (nI 6)) rfl rfl rfl ?_
  refine a_ishr rfl rfl ?_
  refine a_ior rfl rfl ?_
  refine a_istore_1 rfl rfl rfl ?_
  refine a_iload_1 rfl rfl ?_
  refine a_iload_0 rfl rfl ?_
  refine a_ldcw (v := (-545392673)) rfl rfl rfl ?_
  refine a_iand rfl rfl ?_
  refine a_iconst (v := (nI 1)) rfl rfl rfl ?_
  refine a_ishl rfl rfl ?_
  refine a_ior rfl rfl ?_
  refine a_iload_0 rfl rfl ?_
  refine a_ldcw (v := (-17043522)) rfl rfl rfl ?_
  refine a_iand rfl rfl ?_
  refine a_iconst (v := (nI 1)) rfl rfl rfl ?_
  refine a_ishr rfl rfl ?_
  refine a_ior rfl rfl ?_
  refine av_to (a_iret rfl rfl) ?_
  refine congrArg (fun v => (some (Value.int v), σ)) ?_
  exact bs_besides p
/-- what is reached in i steps from p within th -/
def grow (th p : Nat → Bool) : Nat → Nat → Bool
  | 0 => fun j => p j && th j
  | i + 1 => fun j => (grow th p i j || nb (grow th p i) j) && th j
theorem nb_ext {p q : Nat → Bool} (h : ∀ j, j < 30 → p j = q j) : ∀ j, j < 30 → nb p j = nb q j := by
  intro j hj
  unfold nb
  rw [h (j - 1) (by omega), h (j - 6) (by omega)]
  have e1 : (decide (j % 6 < 5) && p (j + 1)) = (decide (j % 6 < 5) && q (j + 1)) := by
    by_cases c : j % 6 < 5
    · rw [h (j + 1) (by omega)]
    · simp [c]
  have e2 : (decide (j < 24) && p (j + 6)) = (decide (j < 24) && q (j + 6)) := by
    by_cases c : j < 24
    · rw [h (j + 6) (by omega)]
    · simp [c]
  rw [e1, e2]
theorem grow_th {th p : Nat → Bool} {i j : Nat} (h : grow th p i j = true) : th j = true := by
  cases i <;> simp [grow] at h <;> exact h.2
theorem grow_mono {th p : Nat → Bool} {i j : Nat} (h : grow th p i j = true) : grow th p (i + 1) j = true := by
  have := grow_th h
  simp [grow, h, this]
theorem grow_le {th p : Nat → Bool} {i k j : Nat} (hik : i ≤ k) (h : grow th p i j = true) : grow th p k j = true := by
  obtain ⟨e, rfl⟩ := Nat.exists_eq_add_of_le hik
  induction e with
  | zero => exact h
  | succ e ih => exact grow_mono (ih (by omega))
theorem grow_stay {th p : Nat → Bool} {i : Nat} (h : ∀ j, j < 30 → grow th p (i + 1) j = grow th p i j) : ∀ k, i ≤ k → ∀ j, j < 30 → grow th p k j = grow th p i j := by
  intro k hk
  obtain ⟨e, rfl⟩ := Nat.exists_eq_add_of_le hk
  induction e with
  | zero => intro j _; rfl
  | succ e ih =>
    intro j hj
    have q := ih (by omega)
    rw [← h j hj]
    show ((grow th p (i + e) j || nb (grow th p (i + e)) j) && th j) = ((grow th p i j || nb (grow th p i) j) && th j)
    rw [q j hj, nb_ext q j hj]
theorem l_reach {σ : mvSt} (p th : Nat → Bool) (f : Int32) (m : Nat) : ∀ (i : Nat) (y : Value), i + m = 30 → avA 1 135 6 [.int f, .int (bsI 30 th), .int (bsI 30 (grow th p i)), .int (nI i), y] [] σ (some (.int (bsI 30 (grow th p 30))), σ) := by
  induction m with
  | zero =>
    intro i y hi
    have e : i = 30 := by omega
    subst e
    refine a_iload_3 rfl rfl ?_
    refine a_bipush (v := (nI 30)) rfl rfl rfl ?_
    refine a_cmpN_ge rfl rfl rfl (by omega) (by omega) (fun _ => ?_) (fun c_9 => absurd c_9 (by decide))
    refine a_iload_2 rfl rfl ?_
    exact a_iret rfl rfl
  | succ m ih =>
    intro i y hi
    refine a_iload_3 rfl rfl ?_
    refine a_bipush (v := (nI 30)) rfl rfl rfl ?_
    refine a_cmpN_ge rfl rfl rfl (by omega) (by omega) (fun c_9 => False.elim (by omega)) (fun _ => ?_)
    refine a_iload_2 rfl rfl ?_
    refine a_iload_2 rfl rfl ?_
    refine a_statI rfl rfl (e_besides _) (Nat.le_of_ble_eq_true rfl) ⟨rfl, rfl, rfl⟩ rfl rfl rfl (Nat.le_of_ble_eq_true rfl) rfl ?_
    refine a_ior rfl rfl ?_
    refine a_iload_1 rfl rfl ?_
    refine a_iand rfl rfl ?_
    refine a_as (y := bsI 30 (grow th p (i + 1))) (by rw [bs_or (by omega), bs_and (by omega)]; rfl) ?_
    refine a_istore_4 rfl rfl rfl ?_
    refine a_iload_4 rfl rfl ?_
    refine a_iload_2 rfl rfl ?_
    refine a_cmp_ne rfl rfl rfl (fun c_25 => ?_) (fun c_25 => ?_)
    · refine a_iload_4 rfl rfl ?_
      refine a_istore_2 rfl rfl rfl ?_
      refine a_iinc_3 rfl rfl (nI_inc _ _) rfl ?_
      refine a_goto rfl rfl ?_
      exact ih (i + 1) _ (by omega)
    · refine a_iload_2 rfl rfl ?_
      refine av_to (a_iret rfl rfl) ?_
      refine congrArg (fun v => (some (Value.int v), σ)) ?_
      exact bs_ext (fun j hj => (grow_stay (bs_inj (by omega) c_25) 30 (by omega) j hj).symm)
theorem e_reach {σ : mvSt} (p th : Nat → Bool) : avE 1 135 [.int (bsI 30 p), .int (bsI 30 th)] σ (some (.int (bsI 30 (grow th p 30))), σ) := by
  show avA _ 135 0 [.int (bsI 30 p), .int (bsI 30 th), mvU, mvU, mvU] [] _ _
  refine a_iload_0 rfl rfl ?_
  refine a_iload_1 rfl rfl ?_
  refine a_iand rfl rfl ?_
  refine a_as (y := bsI 30 (grow th p 0)) (bs_and (by omega) p th) ?_
  refine a_istore_2 rfl rfl rfl ?_
  refine a_iconst (v := (nI 0)) rfl rfl rfl ?_
  refine a_istore_3 rfl rfl rfl ?_
  exact l_reach p th _ 30 0 _ rfl
theorem r_beside {σ : mvSt} (c : Nat) (hc : c < 30) : avE 0 248 [.int (nI c)] σ (some (.int (bsI 30 (nb (fun i => decide (i = c))))), σ) := by
  have q : ∀ c, c < 30 → ∃ b, b = bsI 30 (nb (fun i => decide (i = c))) := fun c _ => ⟨_, rfl⟩
  match c, hc with
  | 0, _ =>
    show avA _ 248 0 [.int (nI 0), mvU] [] _ _
    refine a_iconst (v := (nI 0)) rfl rfl rfl ?_
    refine a_istore_1 rfl rfl rfl ?_
    refine a_iload_0 rfl rfl ?_
    refine a_bipush (v := (nI 6)) rfl rfl rfl ?_
    refine a_iremN rfl rfl (by omega) (by omega) (by omega) ?_
    refine a_ifN_le rfl rfl rfl (by omega) (fun _ => ?_) (fun c_6 => absurd c_6 (by decide))
    refine a_iload_0 rfl rfl ?_
    refine a_bipush (v := (nI 6)) rfl rfl rfl ?_
    refine a_iremN rfl rfl (by omega) (by omega) (by omega) ?_
    refine a_iconst (v := (nI 5)) rfl rfl rfl ?_
    refine a_cmpN_ge rfl rfl rfl (by omega) (by omega) (fun c_22 => absurd c_22 (by decide)) (fun _ => ?_)
    refine a_iload_1 rfl rfl ?_
    refine a_iconst (v := (nI 1)) rfl rfl rfl ?_
    refine a_iload_0 rfl rfl ?_
    refine a_iconst (v := (nI 1)) rfl rfl rfl ?_
    refine a_iaddN rfl rfl ?_
    refine a_ishl rfl rfl ?_
    refine a_ior rfl rfl ?_
    refine a_istore_1 rfl rfl rfl ?_
    refine a_iload_0 rfl rfl ?_
    refine a_bipush (v := (nI 6)) rfl rfl rfl ?_
    refine a_cmpN_lt rfl rfl rfl (by omega) (by omega) (fun _ => ?_) (fun c_36 => absurd c_36 (by decide))
    refine a_iload_0 rfl rfl ?_
    refine a_bipush (v := (nI 24)) rfl rfl rfl ?_
    refine a_cmpN_ge rfl rfl rfl (by omega) (by omega) (fun c_51 => absurd c_51 (by decide)) (fun _ => ?_)
    refine a_iload_1 rfl rfl ?_
    refine a_iconst (v := (nI 1)) rfl rfl rfl ?_
    refine a_iload_0 rfl rfl ?_
    refine a_bipush (v := (nI 6)) rfl rfl rfl ?_
    refine a_iaddN rfl rfl ?_
    refine a_ishl rfl rfl ?_
    refine a_ior rfl rfl ?_
    refine a_istore_1 rfl rfl rfl ?_
    refine a_iload_1 rfl rfl ?_
    refine av_to (a_iret rfl rfl) ?_
    exact congrArg (fun v => (some (Value.int v), σ)) (by decide +kernel)
  | 1, _ =>
    show avA _ 248 0 [.int (nI 1), mvU] [] _ _
    refine a_iconst (v := (nI 0)) rfl rfl rfl ?_
    refine a_istore_1 rfl rfl rfl ?_
    refine a_iload_0 rfl rfl ?_
    refine a_bipush (v := (nI 6)) rfl rfl rfl ?_
    refine a_iremN rfl rfl (by omega) (by omega) (by omega) ?_
    refine a_ifN_le rfl rfl rfl (by omega) (fun c_6 => absurd c_6 (by decide)) (fun _ => ?_)
    refine a_iload_1 rfl rfl ?_
    refine a_iconst (v := (nI 1)) rfl rfl rfl ?_
    refine a_iload_0 rfl rfl ?_
    refine a_iconst (v := (nI 1)) rfl rfl rfl ?_
    refine a_isubN rfl rfl (by decide) ?_
    refine a_ishl rfl rfl ?_
    refine a_ior rfl rfl ?_
    refine a_istore_1 rfl rfl rfl ?_
    refine a_iload_0 rfl rfl ?_
    refine a_bipush (v := (nI 6)) rfl rfl rfl ?_
    refine a_iremN rfl rfl (by omega) (by omega) (by omega) ?_
    refine a_iconst (v := (nI 5)) rfl rfl rfl ?_
    refine a_cmpN_ge rfl rfl rfl (by omega) (by omega) (fun c_22 => absurd c_22 (by decide)) (fun _ => ?_)
    refine a_iload_1 rfl rfl ?_
    refine a_iconst (v := (nI 1)) rfl rfl rfl ?_
    refine a_iload_0 rfl rfl ?_
    refine a_iconst (v := (nI 1)) rfl rfl rfl ?_
    refine a_iaddN rfl rfl ?_
    refine a_ishl rfl rfl ?_
    refine a_ior rfl rfl ?_
    refine a_istore_1 rfl rfl rfl ?_
    refine a_iload_0 rfl rfl ?_
    refine a_bipush (v := (nI 6)) rfl rfl rfl ?_
    refine a_cmpN_lt rfl rfl rfl (by omega) (by omega) (fun _ => ?_) (fun c_36 => absurd c_36 (by decide))
    refine a_iload_0 rfl rfl ?_
    refine a_bipush (v := (nI 24)) rfl rfl rfl ?_
    refine a_cmpN_ge rfl rfl rfl (by omega) (by omega) (fun c_51 => absurd c_51 (by decide)) (fun _ => ?_)
    refine a_iload_1 rfl rfl ?_
    refine a_iconst (v := (nI 1)) rfl rfl rfl ?_
    refine a_iload_0 rfl rfl ?_
    refine a_bipush (v := (nI 6)) rfl rfl rfl ?_
    refine a_iaddN rfl rfl ?_
    refine a_ishl rfl rfl ?_
    refine a_ior rfl rfl ?_
    refine a_istore_1 rfl rfl rfl ?_
    refine a_iload_1 rfl rfl ?_
    refine av_to (a_iret rfl rfl) ?_
    exact congrArg (fun v => (some (Value.int v), σ)) (by decide +kernel)
  | 2, _ =>
    show avA _ 248 0 [.int (nI 2), mvU] [] _ _
    refine a_iconst (v := (nI 0)) rfl rfl rfl ?_
    refine a_istore_1 rfl rfl rfl ?_
    refine a_iload_0 rfl rfl ?_
    refine a_bipush (v := (nI 6)) rfl rfl rfl ?_
    refine a_iremN rfl rfl (by omega) (by omega) (by omega) ?_
    refine a_ifN_le rfl rfl rfl (by omega) (fun c_6 => absurd c_6 (by decide)) (fun _ => ?_)
    refine a_iload_1 rfl rfl ?_
    refine a_iconst (v := (nI 1)) rfl rfl rfl ?_
    refine a_iload_0 rfl rfl ?_
    refine a_iconst (v := (nI 1)) rfl rfl rfl ?_
    refine a_isubN rfl rfl (by decide) ?_
    refine a_ishl rfl rfl ?_
    refine a_ior rfl rfl ?_
    refine a_istore_1 rfl rfl rfl ?_
    refine a_iload_0 rfl rfl ?_
    refine a_bipush (v := (nI 6)) rfl rfl rfl ?_
    refine a_iremN rfl rfl (by omega) (by omega) (by omega) ?_
    refine a_iconst (v := (nI 5)) rfl rfl rfl ?_
    refine a_cmpN_ge rfl rfl rfl (by omega) (by omega) (fun c_22 => absurd c_22 (by decide)) (fun _ => ?_)
    refine a_iload_1 rfl rfl ?_
    refine a_iconst (v := (nI 1)) rfl rfl rfl ?_
    refine a_iload_0 rfl rfl ?_
    refine a_iconst (v := (nI 1)) rfl rfl rfl ?_
    refine a_iaddN rfl rfl ?_
    refine a_ishl rfl rfl ?_
    refine a_ior rfl rfl ?_
    refine a_istore_1 rfl rfl rfl ?_
    refine a_iload_0 rfl rfl ?_
    refine a_bipush (v := (nI 6)) rfl rfl rfl ?_
    refine a_cmpN_lt rfl rfl rfl (by omega) (by omega) (fun _ => ?_) (fun c_36 => absurd c_36 (by decide))
    refine a_iload_0 rfl rfl ?_
    refine a_bipush (v := (nI 24)) rfl rfl rfl ?_
    refine a_cmpN_ge rfl rfl rfl (by omega) (by omega) (fun c_51 => absurd c_51 (by decide)) (fun _ => ?_)
    refine a_iload_1 rfl rfl ?_
    refine a_iconst (v := (nI 1)) rfl rfl rfl ?_
    refine a_iload_0 rfl rfl ?_
    refine a_bipush (v := (nI 6)) rfl rfl rfl ?_
    refine a_iaddN rfl rfl ?_
    refine a_ishl rfl rfl ?_
    refine a_ior rfl rfl ?_
    refine a_istore_1 rfl rfl rfl ?_
    refine a_iload_1 rfl rfl ?_
    refine av_to (a_iret rfl rfl) ?_
    exact congrArg (fun v => (some (Value.int v), σ)) (by decide +kernel)
  | 3, _ =>
    show avA _ 248 0 [.int (nI 3), mvU] [] _ _
    refine a_iconst (v := (nI 0)) rfl rfl rfl ?_
    refine a_istore_1 rfl rfl rfl ?_
    refine a_iload_0 rfl rfl ?_
    refine a_bipush (v := (nI 6)) rfl rfl rfl ?_
    refine a_iremN rfl rfl (by omega) (by omega) (by omega) ?_
    refine a_ifN_le rfl rfl rfl (by omega) (fun c_6 => absurd c_6 (by decide)) (fun _ => ?_)
    refine a_iload_1 rfl rfl ?_
    refine a_iconst (v := (nI 1)) rfl rfl rfl ?_
    refine a_iload_0 rfl rfl ?_
    refine a_iconst (v := (nI 1)) rfl rfl rfl ?_
    refine a_isubN rfl rfl (by decide) ?_
    refine a_ishl rfl rfl ?_
    refine a_ior rfl rfl ?_
    refine a_istore_1 rfl rfl rfl ?_
    refine a_iload_0 rfl rfl ?_
    refine a_bipush (v := (nI 6)) rfl rfl rfl ?_
    refine a_iremN rfl rfl (by omega) (by omega) (by omega) ?_
    refine a_iconst (v := (nI 5)) rfl rfl rfl ?_
    refine a_cmpN_ge rfl rfl rfl (by omega) (by omega) (fun c_22 => absurd c_22 (by decide)) (fun _ => ?_)
    refine a_iload_1 rfl rfl ?_
    refine a_iconst (v := (nI 1)) rfl rfl rfl ?_
    refine a_iload_0 rfl rfl ?_
    refine a_iconst (v := (nI 1)) rfl rfl rfl ?_
    refine a_iaddN rfl rfl ?_
    refine a_ishl rfl rfl ?_
    refine a_ior rfl rfl ?_
    refine a_istore_1 rfl rfl rfl ?_
    refine a_iload_0 rfl rfl ?_
    refine a_bipush (v := (nI 6)) rfl rfl rfl ?_
    refine a_cmpN_lt rfl rfl rfl (by omega) (by omega) (fun _ => ?_) (fun c_36 => absurd c_36 (by decide))
    refine a_iload_0 rfl rfl ?_
    refine a_bipush (v := (nI 24)) rfl rfl rfl ?_
    refine a_cmpN_ge rfl rfl rfl (by omega) (by omega) (fun c_51 => absurd c_51 (by decide)) (fun _ => ?_)
    refine a_iload_1 rfl rfl ?_
    refine a_iconst (v := (nI 1)) rfl rfl rfl ?_
    refine a_iload_0 rfl rfl ?_
    refine a_bipush (v := (nI 6)) rfl rfl rfl ?_
    refine a_iaddN rfl rfl ?_
    refine a_ishl rfl rfl ?_
    refine a_ior rfl rfl ?_
    refine a_istore_1 rfl rfl rfl ?_
    refine a_iload_1 rfl rfl ?_
    refine av_to (a_iret rfl rfl) ?_
    exact congrArg (fun v => (some (Value.int v), σ)) (by decide +kernel)
  | 4, _ =>
    show avA _ 248 0 [.int (nI 4), mvU] [] _ _
    refine a_iconst (v := (nI 0)) rfl rfl rfl ?_
    refine a_istore_1 rfl rfl rfl ?_
    refine a_iload_0 rfl rfl ?_
    refine a_bipush (v := (nI 6)) rfl rfl rfl ?_
    refine a_iremN rfl rfl (by omega) (by omega) (by omega) ?_
    refine a_ifN_le rfl rfl rfl (by omega) (fun c_6 => absurd c_6 (by decide)) (fun _ => ?_)
    refine a_iload_1 rfl rfl ?_
    refine a_iconst (v := (nI 1)) rfl rfl rfl ?_
    refine a_iload_0 rfl rfl ?_
    refine a_iconst (v := (nI 1)) rfl rfl rfl ?_
    refine a_isubN rfl rfl (by decide) ?_
    refine a_ishl rfl rfl ?_
    refine a_ior rfl rfl ?_
    refine a_istore_1 rfl rfl rfl ?_
    refine a_iload_0 rfl rfl ?_
    refine a_bipush (v := (nI 6)) rfl rfl rfl ?_
    refine a_iremN rfl rfl (by omega) (by omega) (by omega) ?_
    refine a_iconst (v := (nI 5)) rfl rfl rfl ?_
    refine a_cmpN_ge rfl rfl rfl (by omega) (by omega) (fun c_22 => absurd c_22 (by decide)) (fun _ => ?_)
    refine a_iload_1 rfl rfl ?_
    refine a_iconst (v := (nI 1)) rfl rfl rfl ?_
    refine a_iload_0 rfl rfl ?_
    refine a_iconst (v := (nI 1)) rfl rfl rfl ?_
    refine a_iaddN rfl rfl ?_
    refine a_ishl rfl rfl ?_
    refine a_ior rfl rfl ?_
    refine a_istore_1 rfl rfl rfl ?_
    refine a_iload_0 rfl rfl ?_
    refine a_bipush (v := (nI 6)) rfl rfl rfl ?_
    refine a_cmpN_lt rfl rfl rfl (by omega) (by omega) (fun _ => ?_) (fun c_36 => absurd c_36 (by decide))
    refine a_iload_0 rfl rfl ?_
    refine a_bipush (v := (nI 24)) rfl rfl rfl ?_
    refine a_cmpN_ge rfl rfl rfl (by omega) (by omega) (fun c_51 => absurd c_51 (by decide)) (fun _ => ?_)
    refine a_iload_1 rfl rfl ?_
    refine a_iconst (v := (nI 1)) rfl rfl rfl ?_
    refine a_iload_0 rfl rfl ?_
    refine a_bipush (v := (nI 6)) rfl rfl rfl ?_
    refine a_iaddN rfl rfl ?_
    refine a_ishl rfl rfl ?_
    refine a_ior rfl rfl ?_
    refine a_istore_1 rfl rfl rfl ?_
    refine a_iload_1 rfl rfl ?_
    refine av_to (a_iret rfl rfl) ?_
    exact congrArg (fun v => (some (Value.int v), σ)) (by decide +kernel)
  | 5, _ =>
    show avA _ 248 0 [.int (nI 5), mvU] [] _ _
    refine a_iconst (v := (nI 0)) rfl rfl rfl ?_
    refine a_istore_1 rfl rfl rfl ?_
    refine a_iload_0 rfl rfl ?_
    refine a_bipush (v := (nI 6)) rfl rfl rfl ?_
    refine a_iremN rfl rfl (by omega) (by omega) (by omega) ?_
    refine a_ifN_le rfl rfl rfl (by omega) (fun c_6 => absurd c_6 (by decide)) (fun _ => ?_)
    refine a_iload_1 rfl rfl ?_
    refine a_iconst (v := (nI 1)) rfl rfl rfl ?_
    refine a_iload_0 rfl rfl ?_
    refine a_iconst (v := (nI 1)) rfl rfl rfl ?_
    refine a_isubN rfl rfl (by decide) ?_
    refine a_ishl rfl rfl ?_
    refine a_ior rfl rfl ?_
    refine a_istore_1 rfl rfl rfl ?_
    refine a_iload_0 rfl rfl ?_
    refine a_bipush (v := (nI 6)) rfl rfl rfl ?_
    refine a_iremN rfl rfl (by omega) (by omega) (by omega) ?_
    refine a_iconst (v := (nI 5)) rfl rfl rfl ?_
    refine a_cmpN_ge rfl rfl rfl (by omega) (by omega) (fun _ => ?_) (fun c_22 => absurd c_22 (by decide))
    refine a_iload_0 rfl rfl ?_
    refine a_bipush (v := (nI 6)) rfl rfl rfl ?_
    refine a_cmpN_lt rfl rfl rfl (by omega) (by omega) (fun _ => ?_) (fun c_36 => absurd c_36 (by decide))
    refine a_iload_0 rfl rfl ?_
    refine a_bipush (v := (nI 24)) rfl rfl rfl ?_
    refine a_cmpN_ge rfl rfl rfl (by omega) (by omega) (fun c_51 => absurd c_51 (by decide)) (fun _ => ?_)
    refine a_iload_1 rfl rfl ?_
    refine a_iconst (v := (nI 1)) rfl rfl rfl ?_
    refine a_iload_0 rfl rfl ?_
    refine a_bipush (v := (nI 6)) rfl rfl rfl ?_
    refine a_iaddN rfl rfl ?_
    refine a_ishl rfl rfl ?_
    refine a_ior rfl rfl ?_
    refine a_istore_1 rfl rfl rfl ?_
    refine a_iload_1 rfl rfl ?_
    refine av_to (a_iret rfl rfl) ?_
    exact congrArg (fun v => (some (Value.int v), σ)) (by decide +kernel)
  | 6, _ =>
    show avA _ 248 0 [.int (nI 6), mvU] [] _ _
    refine a_iconst (v := (nI 0)) rfl rfl rfl ?_
    refine a_istore_1 rfl rfl rfl ?_
    refine a_iload_0 rfl rfl ?_
    refine a_bipush (v := (nI 6)) rfl rfl rfl ?_
    refine a_iremN rfl rfl (by omega) (by omega) (by omega) ?_
    refine a_ifN_le rfl rfl rfl (by omega) (fun _ => ?_) (fun c_6 => absurd c_6 (by decide))
    refine a_iload_0 rfl rfl ?_
    refine a_bipush (v := (nI 6)) rfl rfl rfl ?_
    refine a_iremN rfl rfl (by omega) (by omega) (by omega) ?_
    refine a_iconst (v := (nI 5)) rfl rfl rfl ?_
    refine a_cmpN_ge rfl rfl rfl (by omega) (by omega) (fun c_22 => absurd c_22 (by decide)) (fun _ => ?_)
    refine a_iload_1 rfl rfl ?_
    refine a_iconst (v := (nI 1)) rfl rfl rfl ?_
    refine a_iload_0 rfl rfl ?_
    refine a_iconst (v := (nI 1)) rfl rfl rfl ?_
    refine a_iaddN rfl rfl ?_
    refine a_ishl rfl rfl ?_
    refine a_ior rfl rfl ?_
    refine a_istore_1 rfl rfl rfl ?_
    refine a_iload_0 rfl rfl ?_
    refine a_bipush (v := (nI 6)) rfl rfl rfl ?_
    refine a_cmpN_lt rfl rfl rfl (by omega) (by omega) (fun c_36 => absurd c_36 (by decide)) (fun _ => ?_)
    refine a_iload_1 rfl rfl ?_
    refine a_iconst (v := (nI 1)) rfl rfl rfl ?_
    refine a_iload_0 rfl rfl ?_
    refine a_bipush (v := (nI 6)) rfl rfl rfl ?_
    refine a_isubN rfl rfl (by decide) ?_
    refine a_ishl rfl rfl ?_
    refine a_ior rfl rfl ?_
    refine a_istore_1 rfl rfl rfl ?_
    refine a_iload_0 rfl rfl ?_
    refine a_bipush (v := (nI 24)) rfl rfl rfl ?_
    refine a_cmpN_ge rfl rfl rfl (by omega) (by omega) (fun c_51 => absurd c_51 (by decide)) (fun _ => ?_)
    refine a_iload_1 rfl rfl ?_
    refine a_iconst (v := (nI 1)) rfl rfl rfl ?_
    refine a_iload_0 rfl rfl ?_
    refine a_bipush (v := (nI 6)) rfl rfl rfl ?_
    refine a_iaddN rfl rfl ?_
    refine a_ishl rfl rfl ?_
    refine a_ior rfl rfl ?_
    refine a_istore_1 rfl rfl rfl ?_
    refine a_iload_1 rfl rfl ?_
    refine av_to (a_iret rfl rfl) ?_
    exact congrArg (fun v => (some (Value.int v), σ)) (by decide +kernel)
  | 7, _ =>
    show avA _ 248 0 [.int (nI 7), mvU] [] _ _
    refine a_iconst (v := (nI 0)) rfl rfl rfl ?_
    refine a_istore_1 rfl rfl rfl ?_
    refine a_iload_0 rfl rfl ?_
    refine a_bipush (v := (nI 6)) rfl rfl rfl ?_
    refine a_iremN rfl rfl (by omega) (by omega) (by omega) ?_
    refine a_ifN_le rfl rfl rfl (by omega) (fun c_6 => absurd c_6 (by decide)) (fun _ => ?_)
    refine a_iload_1 rfl rfl ?_
    refine a_iconst (v := (nI 1)) rfl rfl rfl ?_
    refine a_iload_0 rfl rfl ?_
    refine a_iconst (v := (nI 1)) rfl rfl rfl ?_
    refine a_isubN rfl rfl (by decide) ?_
    refine a_ishl rfl rfl ?_
    refine a_ior rfl rfl ?_
    refine a_istore_1 rfl rfl rfl ?_
    refine a_iload_0 rfl rfl ?_
    refine a_bipush (v := (nI 6)) rfl rfl rfl ?_
    refine a_iremN rfl rfl (by omega) (by omega) (by omega) ?_
    refine a_iconst (v := (nI 5)) rfl rfl rfl ?_
    refine a_cmpN_ge rfl rfl rfl (by omega) (by omega) (fun c_22 => absurd c_22 (by decide)) (fun _ => ?_)
    refine a_iload_1 rfl rfl ?_
    refine a_iconst (v := (nI 1)) rfl rfl rfl ?_
    refine a_iload_0 rfl rfl ?_
    refine a_iconst (v := (nI 1)) rfl rfl rfl ?_
    refine a_iaddN rfl rfl ?_
    refine a_ishl rfl rfl ?_
    refine a_ior rfl rfl ?_
    refine a_istore_1 rfl rfl rfl ?_
    refine a_iload_0 rfl rfl ?_
    refine a_bipush (v := (nI 6)) rfl rfl rfl ?_
    refine a_cmpN_lt rfl rfl rfl (by omega) (by omega) (fun c_36 => absurd c_36 (by decide)) (fun _ => ?_)
    refine a_iload_1 rfl rfl ?_
    refine a_iconst (v := (nI 1)) rfl rfl rfl ?_
    refine a_iload_0 rfl rfl ?_
    refine a_bipush (v := (nI 6)) rfl rfl rfl ?_
    refine a_isubN rfl rfl (by decide) ?_
    refine a_ishl rfl rfl ?_
    refine a_ior rfl rfl ?_
    refine a_istore_1 rfl rfl rfl ?_
    refine a_iload_0 rfl rfl ?_
    refine a_bipush (v := (nI 24)) rfl rfl rfl ?_
    refine a_cmpN_ge rfl rfl rfl (by omega) (by omega) (fun c_51 => absurd c_51 (by decide)) (fun _ => ?_)
    refine a_iload_1 rfl rfl ?_
    refine a_iconst (v := (nI 1)) rfl rfl rfl ?_
    refine a_iload_0 rfl rfl ?_
    refine a_bipush (v := (nI 6)) rfl rfl rfl ?_
    refine a_iaddN rfl rfl ?_
    refine a_ishl rfl rfl ?_
    refine a_ior rfl rfl ?_
    refine a_istore_1 rfl rfl rfl ?_
    refine a_iload_1 rfl rfl ?_
    refine av_to (a_iret rfl rfl) ?_
    exact congrArg (fun v => (some (Value.int v), σ)) (by decide +kernel)
  | 8, _ =>
    show avA _ 248 0 [.int (nI 8), mvU] [] _ _
    refine a_iconst (v := (nI 0)) rfl rfl rfl ?_
    refine a_istore_1 rfl rfl rfl ?_
    refine a_iload_0 rfl rfl ?_
    refine a_bipush (v := (nI 6)) rfl rfl rfl ?_
    refine a_iremN rfl rfl (by omega) (by omega) (by omega) ?_
    refine a_ifN_le rfl rfl rfl (by omega) (fun c_6 => absurd c_6 (by decide)) (fun _ => ?_)
    refine a_iload_1 rfl rfl ?_
    refine a_iconst (v := (nI 1)) rfl rfl rfl ?_
    refine a_iload_0 rfl rfl ?_
    refine a_iconst (v := (nI 1)) rfl rfl rfl ?_
    refine a_isubN rfl rfl (by decide) ?_
    refine a_ishl rfl rfl ?_
    refine a_ior rfl rfl ?_
    refine a_istore_1 rfl rfl rfl ?_
    refine a_iload_0 rfl rfl ?_
    refine a_bipush (v := (nI 6)) rfl rfl rfl ?_
    refine a_iremN rfl rfl (by omega) (by omega) (by omega) ?_
    refine a_iconst (v := (nI 5)) rfl rfl rfl ?_
    refine a_cmpN_ge rfl rfl rfl (by omega) (by omega) (fun c_22 => absurd c_22 (by decide)) (fun _ => ?_)
    refine a_iload_1 rfl rfl ?_
    refine a_iconst (v := (nI 1)) rfl rfl rfl ?_
    refine a_iload_0 rfl rfl ?_
    refine a_iconst (v := (nI 1)) rfl rfl rfl ?_
    refine a_iaddN rfl rfl ?_
    refine a_ishl rfl rfl ?_
    refine a_ior rfl rfl ?_
    refine a_istore_1 rfl rfl rfl ?_
    refine a_iload_0 rfl rfl ?_
    refine a_bipush (v := (nI 6)) rfl rfl rfl ?_
    refine a_cmpN_lt rfl rfl rfl (by omega) (by omega) (fun c_36 => absurd c_36 (by decide)) (fun _ => ?_)
    refine a_iload_1 rfl rfl ?_
    refine a_iconst (v := (nI 1)) rfl rfl rfl ?_
    refine a_iload_0 rfl rfl ?_
    refine a_bipush (v := (nI 6)) rfl rfl rfl ?_
    refine a_isubN rfl rfl (by decide) ?_
    refine a_ishl rfl rfl ?_
    refine a_ior rfl rfl ?_
    refine a_istore_1 rfl rfl rfl ?_
    refine a_iload_0 rfl rfl ?_
    refine a_bipush (v := (nI 24)) rfl rfl rfl ?_
    refine a_cmpN_ge rfl rfl rfl (by omega) (by omega) (fun c_51 => absurd c_51 (by decide)) (fun _ => ?_)
    refine a_iload_1 rfl rfl ?_
    refine a_iconst (v := (nI 1)) rfl rfl rfl ?_
    refine a_iload_0 rfl rfl ?_
    refine a_bipush (v := (nI 6)) rfl rfl rfl ?_
    refine a_iaddN rfl rfl ?_
    refine a_ishl rfl rfl ?_
    refine a_ior rfl rfl ?_
    refine a_istore_1 rfl rfl rfl ?_
    refine a_iload_1 rfl rfl ?_
    refine av_to (a_iret rfl rfl) ?_
    exact congrArg (fun v => (some (Value.int v), σ)) (by decide +kernel)
  | 9, _ =>
    show avA _ 248 0 [.int (nI 9), mvU] [] _ _
    refine a_iconst (v := (nI 0)) rfl rfl rfl ?_
    refine a_istore_1 rfl rfl rfl ?_
    refine a_iload_0 rfl rfl ?_
    refine a_bipush (v := (nI 6)) rfl rfl rfl ?_
    refine a_iremN rfl rfl (by omega) (by omega) (by omega) ?_
    refine a_ifN_le rfl rfl rfl (by omega) (fun c_6 => absurd c_6 (by decide)) (fun _ => ?_)
    refine a_iload_1 rfl rfl ?_
    refine a_iconst (v := (nI 1)) rfl rfl rfl ?_
    refine a_iload_0 rfl rfl ?_
    refine a_iconst (v := (nI 1)) rfl rfl rfl ?_
    refine a_isubN rfl rfl (by decide) ?_
    refine a_ishl rfl rfl ?_
    refine a_ior rfl rfl ?_
    refine a_istore_1 rfl rfl rfl ?_
    refine a_iload_0 rfl rfl ?_
    refine a_bipush (v := (nI 6)) rfl rfl rfl ?_
    refine a_iremN rfl rfl (by omega) (by omega) (by omega) ?_
    refine a_iconst (v := (nI 5)) rfl rfl rfl ?_
    refine a_cmpN_ge rfl rfl rfl (by omega) (by omega) (fun c_22 => absurd c_22 (by decide)) (fun _ => ?_)
    refine a_iload_1 rfl rfl ?_
    refine a_iconst (v := (nI 1)) rfl rfl rfl ?_
    refine a_iload_0 rfl rfl ?_
    refine a_iconst (v := (nI 1)) rfl rfl rfl ?_
    refine a_iaddN rfl rfl ?_
    refine a_ishl rfl rfl ?_
    refine a_ior rfl rfl ?_
    refine a_istore_1 rfl rfl rfl ?_
    refine a_iload_0 rfl rfl ?_
    refine a_bipush (v := (nI 6)) rfl rfl rfl ?_
    refine a_cmpN_lt rfl rfl rfl (by omega) (by omega) (fun c_36 => absurd c_36 (by decide)) (fun _ => ?_)
    refine a_iload_1 rfl rfl ?_
    refine a_iconst (v := (nI 1)) rfl rfl rfl ?_
    refine a_iload_0 rfl rfl ?_
    refine a_bipush (v := (nI 6)) rfl rfl rfl ?_
    refine a_isubN rfl rfl (by decide) ?_
    refine a_ishl rfl rfl ?_
    refine a_ior rfl rfl ?_
    refine a_istore_1 rfl rfl rfl ?_
    refine a_iload_0 rfl rfl ?_
    refine a_bipush (v := (nI 24)) rfl rfl rfl ?_
    refine a_cmpN_ge rfl rfl rfl (by omega) (by omega) (fun c_51 => absurd c_51 (by decide)) (fun _ => ?_)
    refine a_iload_1 rfl rfl ?_
    refine a_iconst (v := (nI 1)) rfl rfl rfl ?_
    refine a_iload_0 rfl rfl ?_
    refine a_bipush (v := (nI 6)) rfl rfl rfl ?_
    refine a_iaddN rfl rfl ?_
    refine a_ishl rfl rfl ?_
    refine a_ior rfl rfl ?_
    refine a_istore_1 rfl rfl rfl ?_
    refine a_iload_1 rfl rfl ?_
    refine av_to (a_iret rfl rfl) ?_
    exact congrArg (fun v => (some (Value.int v), σ)) (by decide +kernel)
  | 10, _ =>
    show avA _ 248 0 [.int (nI 10), mvU] [] _ _
    refine a_iconst (v := (nI 0)) rfl rfl rfl ?_
    refine a_istore_1 rfl rfl rfl ?_
    refine a_iload_0 rfl rfl ?_
    refine a_bipush (v := (nI 6)) rfl rfl rfl ?_
    refine a_iremN rfl rfl (by omega) (by omega) (by omega) ?_
    refine a_ifN_le rfl rfl rfl (by omega) (fun c_6 => absurd c_6 (by decide)) (fun _ => ?_)
    refine a_iload_1 rfl rfl ?_
    refine a_iconst (v := (nI 1)) rfl rfl rfl ?_
    refine a_iload_0 rfl rfl ?_
    refine a_iconst (v := (nI 1)) rfl rfl rfl ?_
    refine a_isubN rfl rfl (by decide) ?_
    refine a_ishl rfl rfl ?_
    refine a_ior rfl rfl ?_
    refine a_istore_1 rfl rfl rfl ?_
    refine a_iload_0 rfl rfl ?_
    refine a_bipush (v := (nI 6)) rfl rfl rfl ?_
    refine a_iremN rfl rfl (by omega) (by omega) (by omega) ?_
    refine a_iconst (v := (nI 5)) rfl rfl rfl ?_
    refine a_cmpN_ge rfl rfl rfl (by omega) (by omega) (fun c_22 => absurd c_22 (by decide)) (fun _ => ?_)
    refine a_iload_1 rfl rfl ?_
    refine a_iconst (v := (nI 1)) rfl rfl rfl ?_
    refine a_iload_0 rfl rfl ?_
    refine a_iconst (v := (nI 1)) rfl rfl rfl ?_
    refine a_iaddN rfl rfl ?_
    refine a_ishl rfl rfl ?_
    refine a_ior rfl rfl ?_
    refine a_istore_1 rfl rfl rfl ?_
    refine a_iload_0 rfl rfl ?_
    refine a_bipush (v := (nI 6)) rfl rfl rfl ?_
    refine a_cmpN_lt rfl rfl rfl (by omega) (by omega) (fun c_36 => absurd c_36 (by decide)) (fun _ => ?_)
    refine a_iload_1 rfl rfl ?_
    refine a_iconst (v := (nI 1)) rfl rfl rfl ?_
    refine a_iload_0 rfl rfl ?_
    refine a_bipush (v := (nI 6)) rfl rfl rfl ?_
    refine a_isubN rfl rfl (by decide) ?_
    refine a_ishl rfl rfl ?_
    refine a_ior rfl rfl ?_
    refine a_istore_1 rfl rfl rfl ?_
    refine a_iload_0 rfl rfl ?_
    refine a_bipush (v := (nI 24)) rfl rfl rfl ?_
    refine a_cmpN_ge rfl rfl rfl (by omega) (by omega) (fun c_51 => absurd c_51 (by decide)) (fun _ => ?_)
    refine a_iload_1 rfl rfl ?_
    refine a_iconst (v := (nI 1)) rfl rfl rfl ?_
    refine a_iload_0 rfl rfl ?_
    refine a_bipush (v := (nI 6)) rfl rfl rfl ?_
    refine a_iaddN rfl rfl ?_
    refine a_ishl rfl rfl ?_
    refine a_ior rfl rfl ?_
    refine a_istore_1 rfl rfl rfl ?_
    refine a_iload_1 rfl rfl ?_
    refine av_to (a_iret rfl rfl) ?_
    exact congrArg (fun v => (some (Value.int v), σ)) (by decide +kernel)
  | 11, _ =>
    show avA _ 248 0 [.int (nI 11), mvU] [] _ _
    refine a_iconst (v := (nI 0)) rfl rfl rfl ?_
    refine a_istore_1 rfl rfl rfl ?_
    refine a_iload_0 rfl rfl ?_
    refine a_bipush (v := (nI 6)) rfl rfl rfl ?_
    refine a_iremN rfl rfl (by omega) (by omega) (by omega) ?_
    refine a_ifN_le rfl rfl rfl (by omega) (fun c_6 => absurd c_6 (by decide)) (fun _ => ?_)
    refine a_iload_1 rfl rfl ?_
    refine a_iconst (v := (nI 1)) rfl rfl rfl ?_
    refine a_iload_0 rfl rfl ?_
    refine a_iconst (v := (nI 1)) rfl rfl rfl ?_
    refine a_isubN rfl rfl (by decide) ?_
    refine a_ishl rfl rfl ?_
    refine a_ior rfl rfl ?_
    refine a_istore_1 rfl rfl rfl ?_
    refine a_iload_0 rfl rfl ?_
    refine a_bipush (v := (nI 6)) rfl rfl rfl ?_
    refine a_iremN rfl rfl (by omega) (by omega) (by omega) ?_
    refine a_iconst (v := (nI 5)) rfl rfl rfl ?_
    refine a_cmpN_ge rfl rfl rfl (by omega) (by omega) (fun _ => ?_) (fun c_22 => absurd c_22 (by decide))
    refine a_iload_0 rfl rfl ?_
    refine a_bipush (v := (nI 6)) rfl rfl rfl ?_
    refine a_cmpN_lt rfl rfl rfl (by omega) (by omega) (fun c_36 => absurd c_36 (by decide)) (fun _ => ?_)
    refine a_iload_1 rfl rfl ?_
    refine a_iconst (v := (nI 1)) rfl rfl rfl ?_
    refine a_iload_0 rfl rfl ?_
    refine a_bipush (v := (nI 6)) rfl rfl rfl ?_
    refine a_isubN rfl rfl (by decide) ?_
    refine a_ishl rfl rfl ?_
    refine a_ior rfl rfl ?_
    refine a_istore_1 rfl rfl rfl ?_
    refine a_iload_0 rfl rfl ?_
    refine a_bipush (v := (nI 24)) rfl rfl rfl ?_
    refine a_cmpN_ge rfl rfl rfl (by omega) (by omega) (fun c_51 => absurd c_51 (by decide)) (fun _ => ?_)
    refine a_iload_1 rfl rfl ?_
    refine a_iconst (v := (nI 1)) rfl rfl rfl ?_
    refine a_iload_0 rfl rfl ?_
    refine a_bipush (v := (nI 6)) rfl rfl rfl ?_
    refine a_iaddN rfl rfl ?_
    refine a_ishl rfl rfl ?_
    refine a_ior rfl rfl ?_
    refine a_istore_1 rfl rfl rfl ?_
    refine a_iload_1 rfl rfl ?_
    refine av_to (a_iret rfl rfl) ?_
    exact congrArg (fun v => (some (Value.int v), σ)) (by decide +kernel)
  | 12, _ =>
    show avA _ 248 0 [.int (nI 12), mvU] [] _ _
    refine a_iconst (v := (nI 0)) rfl rfl rfl ?_
    refine a_istore_1 rfl rfl rfl ?_
    refine a_iload_0 rfl rfl ?_
    refine a_bipush (v := (nI 6)) rfl rfl rfl ?_
    refine a_iremN rfl rfl (by omega) (by omega) (by omega) ?_
    refine a_ifN_le rfl rfl rfl (by omega) (fun _ => ?_) (fun c_6 => absurd c_6 (by decide))
    refine a_iload_0 rfl rfl ?_
    refine a_bipush (v := (nI 6)) rfl rfl rfl ?_
    refine a_iremN rfl rfl (by omega) (by omega) (by omega) ?_
    refine a_iconst (v := (nI 5)) rfl rfl rfl ?_
    refine a_cmpN_ge rfl rfl rfl (by omega) (by omega) (fun c_22 => absurd c_22 (by decide)) (fun _ => ?_)
    refine a_iload_1 rfl rfl ?_
    refine a_iconst (v := (nI 1)) rfl rfl rfl ?_
    refine a_iload_0 rfl rfl ?_
    refine a_iconst (v := (nI 1)) rfl rfl rfl ?_
    refine a_iaddN rfl rfl ?_
    refine a_ishl rfl rfl ?_
    refine a_ior rfl rfl ?_
    refine a_istore_1 rfl rfl rfl ?_
    refine a_iload_0 rfl rfl ?_
    refine a_bipush (v := (nI 6)) rfl rfl rfl ?_
    refine a_cmpN_lt rfl rfl rfl (by omega) (by omega) (fun c_36 => absurd c_36 (by decide)) (fun _ => ?_)
    refine a_iload_1 rfl rfl ?_
    refine a_iconst (v := (nI 1)) rfl rfl rfl ?_
    refine a_iload_0 rfl rfl ?_
    refine a_bipush (v := (nI 6)) rfl rfl rfl ?_
    refine a_isubN rfl rfl (by decide) ?_
    refine a_ishl rfl rfl ?_
    refine a_ior rfl rfl ?_
    refine a_istore_1 rfl rfl rfl ?_
    refine a_iload_0 rfl rfl ?_
    refine a_bipush (v := (nI 24)) rfl rfl rfl ?_
    refine a_cmpN_ge rfl rfl rfl (by omega) (by omega) (fun c_51 => absurd c_51 (by decide)) (fun _ => ?_)
    refine a_iload_1 rfl rfl ?_
    refine a_iconst (v := (nI 1)) rfl rfl rfl ?_
    refine a_iload_0 rfl rfl ?_
    refine a_bipush (v := (nI 6)) rfl rfl rfl ?_
    refine a_iaddN rfl rfl ?_
    refine a_ishl rfl rfl ?_
    refine a_ior rfl rfl ?_
    refine a_istore_1 rfl rfl rfl ?_
    refine a_iload_1 rfl rfl ?_
    refine av_to (a_iret rfl rfl) ?_
    exact congrArg (fun v => (some (Value.int v), σ)) (by decide +kernel)
  | 13, _ =>
    show avA _ 248 0 [.int (nI 13), mvU] [] _ _
    refine a_iconst (v := (nI 0)) rfl rfl rfl ?_
    refine a_istore_1 rfl rfl rfl ?_
    refine a_iload_0 rfl rfl ?_
    refine a_bipush (v := (nI 6)) rfl rfl rfl ?_
    refine a_iremN rfl rfl (by omega) (by omega) (by omega) ?_
    refine a_ifN_le rfl rfl rfl (by omega) (fun c_6 => absurd c_6 (by decide)) (fun _ => ?_)
    refine a_iload_1 rfl rfl ?_
    refine a_iconst (v := (nI 1)) rfl rfl rfl ?_
    refine a_iload_0 rfl rfl ?_
    refine a_iconst (v := (nI 1)) rfl rfl rfl ?_
    refine a_isubN rfl rfl (by decide) ?_
    refine a_ishl rfl rfl ?_
    refine a_ior rfl rfl ?_
    refine a_istore_1 rfl rfl rfl ?_
    refine a_iload_0 rfl rfl ?_
    refine a_bipush (v := (nI 6)) rfl rfl rfl ?_
    refine a_iremN rfl rfl (by omega) (by omega) (by omega) ?_
    refine a_iconst (v := (nI 5)) rfl rfl rfl ?_
    refine a_cmpN_ge rfl rfl rfl (by omega) (by omega) (fun c_22 => absurd c_22 (by decide)) (fun _ => ?_)
    refine a_iload_1 rfl rfl ?_
    refine a_iconst (v := (nI 1)) rfl rfl rfl ?_
    refine a_iload_0 rfl rfl ?_
    refine a_iconst (v := (nI 1)) rfl rfl rfl ?_
    refine a_iaddN rfl rfl ?_
    refine a_ishl rfl rfl ?_
    refine a_ior rfl rfl ?_
    refine a_istore_1 rfl rfl rfl ?_
    refine a_iload_0 rfl rfl ?_
    refine a_bipush (v := (nI 6)) rfl rfl rfl ?_
    refine a_cmpN_lt rfl rfl rfl (by omega) (by omega) (fun c_36 => absurd c_36 (by decide)) (fun _ => ?_)
    refine a_iload_1 rfl rfl ?_
    refine a_iconst (v := (nI 1)) rfl rfl rfl ?_
    refine a_iload_0 rfl rfl ?_
    refine a_bipush (v := (nI 6)) rfl rfl rfl ?_
    refine a_isubN rfl rfl (by decide) ?_
    refine a_ishl rfl rfl ?_
    refine a_ior rfl rfl ?_
    refine a_istore_1 rfl rfl rfl ?_
    refine a_iload_0 rfl rfl ?_
    refine a_bipush (v := (nI 24)) rfl rfl rfl ?_
    refine a_cmpN_ge rfl rfl rfl (by omega) (by omega) (fun c_51 => absurd c_51 (by decide)) (fun _ => ?_)
    refine a_iload_1 rfl rfl ?_
    refine a_iconst (v := (nI 1)) rfl rfl rfl ?_
    refine a_iload_0 rfl rfl ?_
    refine a_bipush (v := (nI 6)) rfl rfl rfl ?_
    refine a_iaddN rfl rfl ?_
    refine a_ishl rfl rfl ?_
    refine a_ior rfl rfl ?_
    refine a_istore_1 rfl rfl rfl ?_
    refine a_iload_1 rfl rfl ?_
    refine av_to (a_iret rfl rfl) ?_
    exact congrArg (fun v => (some (Value.int v), σ)) (by decide +kernel)
  | 14, _ =>
    show avA _ 248 0 [.int (nI 14), mvU] [] _ _
    refine a_iconst (v := (nI 0)) rfl rfl rfl ?_
    refine a_istore_1 rfl rfl rfl ?_
    refine a_iload_0 rfl rfl ?_
    refine a_bipush (v := (nI 6)) rfl rfl rfl ?_
    refine a_iremN rfl rfl (by omega) (by omega) (by omega) ?_
    refine a_ifN_le rfl rfl rfl (by omega) (fun c_6 => absurd c_6 (by decide)) (fun _ => ?_)
    refine a_iload_1 rfl rfl ?_
    refine a_iconst (v := (nI 1)) rfl rfl rfl ?_
    refine a_iload_0 rfl rfl ?_
    refine a_iconst (v := (nI 1)) rfl rfl rfl ?_
    refine a_isubN rfl rfl (by decide) ?_
    refine a_ishl rfl rfl ?_
    refine a_ior rfl rfl ?_
    refine a_istore_1 rfl rfl rfl ?_
    refine a_iload_0 rfl rfl ?_
    refine a_bipush (v := (nI 6)) rfl rfl rfl ?_
    refine a_iremN rfl rfl (by omega) (by omega) (by omega) ?_
    refine a_iconst (v := (nI 5)) rfl rfl rfl ?_
    refine a_cmpN_ge rfl rfl rfl (by omega) (by omega) (fun c_22 => absurd c_22 (by decide)) (fun _ => ?_)
    refine a_iload_1 rfl rfl ?_
    refine a_iconst (v := (nI 1)) rfl rfl rfl ?_
    refine a_iload_0 rfl rfl ?_
    refine a_iconst (v := (nI 1)) rfl rfl rfl ?_
    refine a_iaddN rfl rfl ?_
    refine a_ishl rfl rfl ?_
    refine a_ior rfl rfl ?_
    refine a_istore_1 rfl rfl rfl ?_
    refine a_iload_0 rfl rfl ?_
    refine a_bipush (v := (nI 6)) rfl rfl rfl ?_
    refine a_cmpN_lt rfl rfl rfl (by omega) (by omega) (fun c_36 => absurd c_36 (by decide)) (fun _ => ?_)
    refine a_iload_1 rfl rfl ?_
    refine a_iconst (v := (nI 1)) rfl rfl rfl ?_
    refine a_iload_0 rfl rfl ?_
    refine a_bipush (v := (nI 6)) rfl rfl rfl ?_
    refine a_isubN rfl rfl (by decide) ?_
    refine a_ishl rfl rfl ?_
    refine a_ior rfl rfl ?_
    refine a_istore_1 rfl rfl rfl ?_
    refine a_iload_0 rfl rfl ?_
    refine a_bipush (v := (nI 24)) rfl rfl rfl ?_
    refine a_cmpN_ge rfl rfl rfl (by omega) (by omega) (fun c_51 => absurd c_51 (by decide)) (fun _ => ?_)
    refine a_iload_1 rfl rfl ?_
    refine a_iconst (v := (nI 1)) rfl rfl rfl ?_
    refine a_iload_0 rfl rfl ?_
    refine a_bipush (v := (nI 6)) rfl rfl rfl ?_
    refine a_iaddN rfl rfl ?_
    refine a_ishl rfl rfl ?_
    refine a_ior rfl rfl ?_
    refine a_istore_1 rfl rfl rfl ?_
    refine a_iload_1 rfl rfl ?_
    refine av_to (a_iret rfl rfl) ?_
    exact congrArg (fun v => (some (Value.int v), σ)) (by decide +kernel)
  | 15, _ =>
    show avA _ 248 0 [.int (nI 15), mvU] [] _ _
    refine a_iconst (v := (nI 0)) rfl rfl rfl ?_
    refine a_istore_1 rfl rfl rfl ?_
    refine a_iload_0 rfl rfl ?_
    refine a_bipush (v := (nI 6)) rfl rfl rfl ?_
    refine a_iremN rfl rfl (by omega) (by omega) (by omega) ?_
    refine a_ifN_le rfl rfl rfl (by omega) (fun c_6 => absurd c_6 (by decide)) (fun _ => ?_)
    refine a_iload_1 rfl rfl ?_
    refine a_iconst (v := (nI 1)) rfl rfl rfl ?_
    refine a_iload_0 rfl rfl ?_
    refine a_iconst (v := (nI 1)) rfl rfl rfl ?_
    refine a_isubN rfl rfl (by decide) ?_
    refine a_ishl rfl rfl ?_
    refine a_ior rfl rfl ?_
    refine a_istore_1 rfl rfl rfl ?_
    refine a_iload_0 rfl rfl ?_
    refine a_bipush (v := (nI 6)) rfl rfl rfl ?_
    refine a_iremN rfl rfl (by omega) (by omega) (by omega) ?_
    refine a_iconst (v := (nI 5)) rfl rfl rfl ?_
    refine a_cmpN_ge rfl rfl rfl (by omega) (by omega) (fun c_22 => absurd c_22 (by decide)) (fun _ => ?_)
    refine a_iload_1 rfl rfl ?_
    refine a_iconst (v := (nI 1)) rfl rfl rfl ?_
    refine a_iload_0 rfl rfl ?_
    refine a_iconst (v := (nI 1)) rfl rfl rfl ?_
    refine a_iaddN rfl rfl ?_
    refine a_ishl rfl rfl ?_
    refine a_ior rfl rfl ?_
    refine a_istore_1 rfl rfl rfl ?_
    refine a_iload_0 rfl rfl ?_
    refine a_bipush (v := (nI 6)) rfl rfl rfl ?_
    refine a_cmpN_lt rfl rfl rfl (by omega) (by omega) (fun c_36 => absurd c_36 (by decide)) (fun _ => ?_)
    refine a_iload_1 rfl rfl ?_
    refine a_iconst (v := (nI 1)) rfl rfl rfl ?_
    refine a_iload_0 rfl rfl ?_
    refine a_bipush (v := (nI 6)) rfl rfl rfl ?_
    refine a_isubN rfl rfl (by decide) ?_
    refine a_ishl rfl rfl ?_
    refine a_ior rfl rfl ?_
    refine a_istore_1 rfl rfl rfl ?_
    refine a_iload_0 rfl rfl ?_
    refine a_bipush (v := (nI 24)) rfl rfl rfl ?_
    refine a_cmpN_ge rfl rfl rfl (by omega) (by omega) (fun c_51 => absurd c_51 (by decide)) (fun _ => ?_)
    refine a_iload_1 rfl rfl ?_
    refine a_iconst (v := (nI 1)) rfl rfl rfl ?_
    refine a_iload_0 rfl rfl ?_
    refine a_bipush (v := (nI 6)) rfl rfl rfl ?_
    refine a_iaddN rfl rfl ?_
    refine a_ishl rfl rfl ?_
    refine a_ior rfl rfl ?_
    refine a_istore_1 rfl rfl rfl ?_
    refine a_iload_1 rfl rfl ?_
    refine av_to (a_iret rfl rfl) ?_
    exact congrArg (fun v => (some (Value.int v), σ)) (by decide +kernel)
  | 16, _ =>
    show avA _ 248 0 [.int (nI 16), mvU] [] _ _
    refine a_iconst (v := (nI 0)) rfl rfl rfl ?_
    refine a_istore_1 rfl rfl rfl ?_
    refine a_iload_0 rfl rfl ?_
    refine a_bipush (v := (nI 6)) rfl rfl rfl ?_
    refine a_iremN rfl rfl (by omega) (by omega) (by omega) ?_
    refine a_ifN_le rfl rfl rfl (by omega) (fun c_6 => absurd c_6 (by decide)) (fun _ => ?_)
    refine a_iload_1 rfl rfl ?_
    refine a_iconst (v := (nI 1)) rfl rfl rfl ?_
    refine a_iload_0 rfl rfl ?_
    refine a_iconst (v := (nI 1)) rfl rfl rfl ?_
    refine a_isubN rfl rfl (by decide) ?_
    refine a_ishl rfl rfl ?_
    refine a_ior rfl rfl ?_
    refine a_istore_1 rfl rfl rfl ?_
    refine a_iload_0 rfl rfl ?_
    refine a_bipush (v := (nI 6)) rfl rfl rfl ?_
    refine a_iremN rfl rfl (by omega) (by omega) (by omega) ?_
    refine a_iconst (v := (nI 5)) rfl rfl rfl ?_
    refine a_cmpN_ge rfl rfl rfl (by omega) (by omega) (fun c_22 => absurd c_22 (by decide)) (fun _ => ?_)
    refine a_iload_1 rfl rfl ?_
    refine a_iconst (v := (nI 1)) rfl rfl rfl ?_
    refine a_iload_0 rfl rfl ?_
    refine a_iconst (v := (nI 1)) rfl rfl rfl ?_
    refine a_iaddN rfl rfl ?_
    refine a_ishl rfl rfl ?_
    refine a_ior rfl rfl ?_
    refine a_istore_1 rfl rfl rfl ?_
    refine a_iload_0 rfl rfl ?_
    refine a_bipush (v := (nI 6)) rfl rfl rfl ?_
    refine a_cmpN_lt rfl rfl rfl (by omega) (by omega) (fun c_36 => absurd c_36 (by decide)) (fun _ => ?_)
    refine a_iload_1 rfl rfl ?_
    refine a_iconst (v := (nI 1)) rfl rfl rfl ?_
    refine a_iload_0 rfl rfl ?_
    refine a_bipush (v := (nI 6)) rfl rfl rfl ?_
    refine a_isubN rfl rfl (by decide) ?_
    refine a_ishl rfl rfl ?_
    refine a_ior rfl rfl ?_
    refine a_istore_1 rfl rfl rfl ?_
    refine a_iload_0 rfl rfl ?_
    refine a_bipush (v := (nI 24)) rfl rfl rfl ?_
    refine a_cmpN_ge rfl rfl rfl (by omega) (by omega) (fun c_51 => absurd c_51 (by decide)) (fun _ => ?_)
    refine a_iload_1 rfl rfl ?_
    refine a_iconst (v := (nI 1)) rfl rfl rfl ?_
    refine a_iload_0 rfl rfl ?_
    refine a_bipush (v := (nI 6)) rfl rfl rfl ?_
    refine a_iaddN rfl rfl ?_
    refine a_ishl rfl rfl ?_
    refine a_ior rfl rfl ?_
    refine a_istore_1 rfl rfl rfl ?_
    refine a_iload_1 rfl rfl ?_
    refine av_to (a_iret rfl rfl) ?_
    exact congrArg (fun v => (some (Value.int v), σ)) (by decide +kernel)
  | 17, _ =>
    show avA _ 248 0 [.int (nI 17), mvU] [] _ _
    refine a_iconst (v := (nI 0)) rfl rfl rfl ?_
    refine a_istore_1 rfl rfl rfl ?_
    refine a_iload_0 rfl rfl ?_
    refine a_bipush (v := (nI 6)) rfl rfl rfl ?_
    refine a_iremN rfl rfl (by omega) (by omega) (by omega) ?_
    refine a_ifN_le rfl rfl rfl (by omega) (fun c_6 => absurd c_6 (by decide)) (fun _ => ?_)
    refine a_iload_1 rfl rfl ?_
    refine a_iconst (v := (nI 1)) rfl rfl rfl ?_
    refine a_iload_0 rfl rfl ?_
    refine a_iconst (v := (nI 1)) rfl rfl rfl ?_
    refine a_isubN rfl rfl (by decide) ?_
    refine a_ishl rfl rfl ?_
    refine a_ior rfl rfl ?_
    refine a_istore_1 rfl rfl rfl ?_
    refine a_iload_0 rfl rfl ?_
    refine a_bipush (v := (nI 6)) rfl rfl rfl ?_
    refine a_iremN rfl rfl (by omega) (by omega) (by omega) ?_
    refine a_iconst (v := (nI 5)) rfl rfl rfl ?_
    refine a_cmpN_ge rfl rfl rfl (by omega) (by omega) (fun _ => ?_) (fun c_22 => absurd c_22 (by decide))
    refine a_iload_0 rfl rfl ?_
    refine a_bipush (v := (nI 6)) rfl rfl rfl ?_
    refine a_cmpN_lt rfl rfl rfl (by omega) (by omega) (fun c_36 => absurd c_36 (by decide)) (fun _ => ?_)
    refine a_iload_1 rfl rfl ?_
    refine a_iconst (v := (nI 1)) rfl rfl rfl ?_
    refine a_iload_0 rfl rfl ?_
    refine a_bipush (v := (nI 6)) rfl rfl rfl ?_
    refine a_isubN rfl rfl (by decide) ?_
    refine a_ishl rfl rfl ?_
    refine a_ior rfl rfl ?_
    refine a_istore_1 rfl rfl rfl ?_
    refine a_iload_0 rfl rfl ?_
    refine a_bipush (v := (nI 24)) rfl rfl rfl ?_
    refine a_cmpN_ge rfl rfl rfl (by omega) (by omega) (fun c_51 => absurd c_51 (by decide)) (fun _ => ?_)
    refine a_iload_1 rfl rfl ?_
    refine a_iconst (v := (nI 1)) rfl rfl rfl ?_
    refine a_iload_0 rfl rfl ?_
    refine a_bipush (v := (nI 6)) rfl rfl rfl ?_
    refine a_iaddN rfl rfl ?_
    refine a_ishl rfl rfl ?_
    refine a_ior rfl rfl ?_
    refine a_istore_1 rfl rfl rfl ?_
    refine a_iload_1 rfl rfl ?_
    refine av_to (a_iret rfl rfl) ?_
    exact congrArg (fun v => (some (Value.int v), σ)) (by decide +kernel)
  | 18, _ =>
    show avA _ 248 0 [.int (nI 18), mvU] [] _ _
    refine a_iconst (v := (nI 0)) rfl rfl rfl ?_
    refine a_istore_1 rfl rfl rfl ?_
    refine a_iload_0 rfl rfl ?_
    refine a_bipush (v := (nI 6)) rfl rfl rfl ?_
    refine a_iremN rfl rfl (by omega) (by omega) (by omega) ?_
    refine a_ifN_le rfl rfl rfl (by omega) (fun _ => ?_) (fun c_6 => absurd c_6 (by decide))
    refine a_iload_0 rfl rfl ?_
    refine a_bipush (v := (nI 6)) rfl rfl rfl ?_
    refine a_iremN rfl rfl (by omega) (by omega) (by omega) ?_
    refine a_iconst (v := (nI 5)) rfl rfl rfl ?_
    refine a_cmpN_ge rfl rfl rfl (by omega) (by omega) (fun c_22 => absurd c_22 (by decide)) (fun _ => ?_)
    refine a_iload_1 rfl rfl ?_
    refine a_iconst (v := (nI 1)) rfl rfl rfl ?_
    refine a_iload_0 rfl rfl ?_
    refine a_iconst (v := (nI 1)) rfl rfl rfl ?_
    refine a_iaddN rfl rfl ?_
    refine a_ishl rfl rfl ?_
    refine a_ior rfl rfl ?_
    refine a_istore_1 rfl rfl rfl ?_
    refine a_iload_0 rfl rfl ?_
    refine a_bipush (v := (nI 6)) rfl rfl rfl ?_
    refine a_cmpN_lt rfl rfl rfl (by omega) (by omega) (fun c_36 => absurd c_36 (by decide)) (fun _ => ?_)
    refine a_iload_1 rfl rfl ?_
    refine a_iconst (v := (nI 1)) rfl rfl rfl ?_
    refine a_iload_0 rfl rfl ?_
    refine a_bipush (v := (nI 6)) rfl rfl rfl ?_
    refine a_isubN rfl rfl (by decide) ?_
    refine a_ishl rfl rfl ?_
    refine a_ior rfl rfl ?_
    refine a_istore_1 rfl rfl rfl ?_
    refine a_iload_0 rfl rfl ?_
    refine a_bipush (v := (nI 24)) rfl rfl rfl ?_
    refine a_cmpN_ge rfl rfl rfl (by omega) (by omega) (fun c_51 => absurd c_51 (by decide)) (fun _ => ?_)
    refine a_iload_1 rfl rfl ?_
    refine a_iconst (v := (nI 1)) rfl rfl rfl ?_
    refine a_iload_0 rfl rfl ?_
    refine a_bipush (v := (nI 6)) rfl rfl rfl ?_
    refine a_iaddN rfl rfl ?_
    refine a_ishl rfl rfl ?_
    refine a_ior rfl rfl ?_
    refine a_istore_1 rfl rfl rfl ?_
    refine a_iload_1 rfl rfl ?_
    refine av_to (a_iret rfl rfl) ?_
    exact congrArg (fun v => (some (Value.int v), σ)) (by decide +kernel)
  | 19, _ =>
    show avA _ 248 0 [.int (nI 19), mvU] [] _ _
    refine a_iconst (v := (nI 0)) rfl rfl rfl ?_
    refine a_istore_1 rfl rfl rfl ?_
    refine a_iload_0 rfl rfl ?_
    refine a_bipush (v := (nI 6)) rfl rfl rfl ?_
    refine a_iremN rfl rfl (by omega) (by omega) (by omega) ?_
    refine a_ifN_le rfl rfl rfl (by omega) (fun c_6 => absurd c_6 (by decide)) (fun _ => ?_)
    refine a_iload_1 rfl rfl ?_
    refine a_iconst (v := (nI 1)) rfl rfl rfl ?_
    refine a_iload_0 rfl rfl ?_
    refine a_iconst (v := (nI 1)) rfl rfl rfl ?_
    refine a_isubN rfl rfl (by decide) ?_
    refine a_ishl rfl rfl ?_
    refine a_ior rfl rfl ?_
    refine a_istore_1 rfl rfl rfl ?_
    refine a_iload_0 rfl rfl ?_
    refine a_bipush (v := (nI 6)) rfl rfl rfl ?_
    refine a_iremN rfl rfl (by omega) (by omega) (by omega) ?_
    refine a_iconst (v := (nI 5)) rfl rfl rfl ?_
    refine a_cmpN_ge rfl rfl rfl (by omega) (by omega) (fun c_22 => absurd c_22 (by decide)) (fun _ => ?_)
    refine a_iload_1 rfl rfl ?_
    refine a_iconst (v := (nI 1)) rfl rfl rfl ?_
    refine a_iload_0 rfl rfl ?_
    refine a_iconst (v := (nI 1)) rfl rfl rfl ?_
    refine a_iaddN rfl rfl ?_
    refine a_ishl rfl rfl ?_
    refine a_ior rfl rfl ?_
    refine a_istore_1 rfl rfl rfl ?_
    refine a_iload_0 rfl rfl ?_
    refine a_bipush (v := (nI 6)) rfl rfl rfl ?_
    refine a_cmpN_lt rfl rfl rfl (by omega) (by omega) (fun c_36 => absurd c_36 (by decide)) (fun _ => ?_)
    refine a_iload_1 rfl rfl ?_
    refine a_iconst (v := (nI 1)) rfl rfl rfl ?_
    refine a_iload_0 rfl rfl ?_
    refine a_bipush (v := (nI 6)) rfl rfl rfl ?_
    refine a_isubN rfl rfl (by decide) ?_
    refine a_ishl rfl rfl ?_
    refine a_ior rfl rfl ?_
    refine a_istore_1 rfl rfl rfl ?_
    refine a_iload_0 rfl rfl ?_
    refine a_bipush (v := (nI 24)) rfl rfl rfl ?_
    refine a_cmpN_ge rfl rfl rfl (by omega) (by omega) (fun c_51 => absurd c_51 (by decide)) (fun _ => ?_)
    refine a_iload_1 rfl rfl ?_
    refine a_iconst (v := (nI 1)) rfl rfl rfl ?_
    refine a_iload_0 rfl rfl ?_
    refine a_bipush (v := (nI 6)) rfl rfl rfl ?_
    refine a_iaddN rfl rfl ?_
    refine a_ishl rfl rfl ?_
    refine a_ior rfl rfl ?_
    refine a_istore_1 rfl rfl rfl ?_
    refine a_iload_1 rfl rfl ?_
    refine av_to (a_iret rfl rfl) ?_
    exact congrArg (fun v => (some (Value.int v), σ)) (by decide +kernel)
  | 20, _ =>
    show avA _ 248 0 [.int (nI 20), mvU] [] _ _
    refine a_iconst (v := (nI 0)) rfl rfl rfl ?_
    refine a_istore_1 rfl rfl rfl ?_
    refine a_iload_0 rfl rfl ?_
    refine a_bipush (v := (nI 6)) rfl rfl rfl ?_
    refine a_iremN rfl rfl (by omega) (by omega) (by omega) ?_
    refine a_ifN_le rfl rfl rfl (by omega) (fun c_6 => absurd c_6 (by decide)) (fun _ => ?_)
    refine a_iload_1 rfl rfl ?_
    refine a_iconst (v := (nI 1)) rfl rfl rfl ?_
    refine a_iload_0 rfl rfl ?_
    refine a_iconst (v := (nI 1)) rfl rfl rfl ?_
    refine a_isubN rfl rfl (by decide) ?_
    refine a_ishl rfl rfl ?_
    refine a_ior rfl rfl ?_
    refine a_istore_1 rfl rfl rfl ?_
    refine a_iload_0 rfl rfl ?_
    refine a_bipush (v := (nI 6)) rfl rfl rfl ?_
    refine a_iremN rfl rfl (by omega) (by omega) (by omega) ?_
    refine a_iconst (v := (nI 5)) rfl rfl rfl ?_
    refine a_cmpN_ge rfl rfl rfl (by omega) (by omega) (fun c_22 => absurd c_22 (by decide)) (fun _ => ?_)
    refine a_iload_1 rfl rfl ?_
    refine a_iconst (v := (nI 1)) rfl rfl rfl ?_
    refine a_iload_0 rfl rfl ?_
    refine a_iconst (v := (nI 1)) rfl rfl rfl ?_
    refine a_iaddN rfl rfl ?_
    refine a_ishl rfl rfl ?_
    refine a_ior rfl rfl ?_
    refine a_istore_1 rfl rfl rfl ?_
    refine a_iload_0 rfl rfl ?_
    refine a_bipush (v := (nI 6)) rfl rfl rfl ?_
    refine a_cmpN_lt rfl rfl rfl (by omega) (by omega) (fun c_36 => absurd c_36 (by decide)) (fun _ => ?_)
    refine a_iload_1 rfl rfl ?_
    refine a_iconst (v := (nI 1)) rfl rfl rfl ?_
    refine a_iload_0 rfl rfl ?_
    refine a_bipush (v := (nI 6)) rfl rfl rfl ?_
    refine a_isubN rfl rfl (by decide) ?_
    refine a_ishl rfl rfl ?_
    refine a_ior rfl rfl ?_
    refine a_istore_1 rfl rfl rfl ?_
    refine a_iload_0 rfl rfl ?_
    refine a_bipush (v := (nI 24)) rfl rfl rfl ?_
    refine a_cmpN_ge rfl rfl rfl (by omega) (by omega) (fun c_51 => absurd c_51 (by decide)) (fun _ => ?_)
    refine a_iload_1 rfl rfl ?_
    refine a_iconst (v := (nI 1)) rfl rfl rfl ?_
    refine a_iload_0 rfl rfl ?_
    refine a_bipush (v := (nI 6)) rfl rfl rfl ?_
    refine a_iaddN rfl rfl ?_
    refine a_ishl rfl rfl ?_
    refine a_ior rfl rfl ?_
    refine a_istore_1 rfl rfl rfl ?_
    refine a_iload_1 rfl rfl ?_
    refine av_to (a_iret rfl rfl) ?_
    exact congrArg (fun v => (some (Value.int v), σ)) (by decide +kernel)
  | 21, _ =>
    show avA _ 248 0 [.int (nI 21), mvU] [] _ _
    refine a_iconst (v := (nI 0)) rfl rfl rfl ?_
    refine a_istore_1 rfl rfl rfl ?_
    refine a_iload_0 rfl rfl ?_
    refine a_bipush (v := (nI 6)) rfl rfl rfl ?_
    refine a_iremN rfl rfl (by omega) (by omega) (by omega) ?_
    refine a_ifN_le rfl rfl rfl (by omega) (fun c_6 => absurd c_6 (by decide)) (fun _ => ?_)
    refine a_iload_1 rfl rfl ?_
    refine a_iconst (v := (nI 1)) rfl rfl rfl ?_
    refine a_iload_0 rfl rfl ?_
    refine a_iconst (v := (nI 1)) rfl rfl rfl ?_
    refine a_isubN rfl rfl (by decide) ?_
    refine a_ishl rfl rfl ?_
    refine a_ior rfl rfl ?_
    refine a_istore_1 rfl rfl rfl ?_
    refine a_iload_0 rfl rfl ?_
    refine a_bipush (v := (nI 6)) rfl rfl rfl ?_
    refine a_iremN rfl rfl (by omega) (by omega) (by omega) ?_
    refine a_iconst (v := (nI 5)) rfl rfl rfl ?_
    refine a_cmpN_ge rfl rfl rfl (by omega) (by omega) (fun c_22 => absurd c_22 (by decide)) (fun _ => ?_)
    refine a_iload_1 rfl rfl ?_
    refine a_iconst (v := (nI 1)) rfl rfl rfl ?_
    refine a_iload_0 rfl rfl ?_
    refine a_iconst (v := (nI 1)) rfl rfl rfl ?_
    refine a_iaddN rfl rfl ?_
    refine a_ishl rfl rfl ?_
    refine a_ior rfl rfl ?_
    refine a_istore_1 rfl rfl rfl ?_
    refine a_iload_0 rfl rfl ?_
    refine a_bipush (v := (nI 6)) rfl rfl rfl ?_
    refine a_cmpN_lt rfl rfl rfl (by omega) (by omega) (fun c_36 => absurd c_36 (by decide)) (fun _ => ?_)
    refine a_iload_1 rfl rfl ?_
    refine a_iconst (v := (nI 1)) rfl rfl rfl ?_
    refine a_iload_0 rfl rfl ?_
    refine a_bipush (v := (nI 6)) rfl rfl rfl ?_
    refine a_isubN rfl rfl (by decide) ?_
    refine a_ishl rfl rfl ?_
    refine a_ior rfl rfl ?_
    refine a_istore_1 rfl rfl rfl ?_
    refine a_iload_0 rfl rfl ?_
    refine a_bipush (v := (nI 24)) rfl rfl rfl ?_
    refine a_cmpN_ge rfl rfl rfl (by omega) (by omega) (fun c_51 => absurd c_51 (by decide)) (fun _ => ?_)
    refine a_iload_1 rfl rfl ?_
    refine a_iconst (v := (nI 1)) rfl rfl rfl ?_
    refine a_iload_0 rfl rfl ?_
    refine a_bipush (v := (nI 6)) rfl rfl rfl ?_
    refine a_iaddN rfl rfl ?_
    refine a_ishl rfl rfl ?_
    refine a_ior rfl rfl ?_
    refine a_istore_1 rfl rfl rfl ?_
    refine a_iload_1 rfl rfl ?_
    refine av_to (a_iret rfl rfl) ?_
    exact congrArg (fun v => (some (Value.int v), σ)) (by decide +kernel)
  | 22, _ =>
    show avA _ 248 0 [.int (nI 22), mvU] [] _ _
    refine a_iconst (v := (nI 0)) rfl rfl rfl ?_
    refine a_istore_1 rfl rfl rfl ?_
    refine a_iload_0 rfl rfl ?_
    refine a_bipush (v := (nI 6)) rfl rfl rfl ?_
    refine a_iremN rfl rfl (by omega) (by omega) (by omega) ?_
    refine a_ifN_le rfl rfl rfl (by omega) (fun c_6 => absurd c_6 (by decide)) (fun _ => ?_)
    refine a_iload_1 rfl rfl ?_
    refine a_iconst (v := (nI 1)) rfl rfl rfl ?_
    refine a_iload_0 rfl rfl ?_
    refine a_iconst (v := (nI 1)) rfl rfl rfl ?_
    refine a_isubN rfl rfl (by decide) ?_
    refine a_ishl rfl rfl ?_
    refine a_ior rfl rfl ?_
    refine a_istore_1 rfl rfl rfl ?_
    refine a_iload_0 rfl rfl ?_
    refine a_bipush (v := (nI 6)) rfl rfl rfl ?_
    refine a_iremN rfl rfl (by omega) (by omega) (by omega) ?_
    refine a_iconst (v := (nI 5)) rfl rfl rfl ?_
    refine a_cmpN_ge rfl rfl rfl (by omega) (by omega) (fun c_22 => absurd c_22 (by decide)) (fun _ => ?_)
    refine a_iload_1 rfl rfl ?_
    refine a_iconst (v := (nI 1)) rfl rfl rfl ?_
    refine a_iload_0 rfl rfl ?_
    refine a_iconst (v := (nI 1)) rfl rfl rfl ?_
    refine a_iaddN rfl rfl ?_
    refine a_ishl rfl rfl ?_
    refine a_ior rfl rfl ?_
    refine a_istore_1 rfl rfl rfl ?_
    refine a_iload_0 rfl rfl ?_
    refine a_bipush (v := (nI 6)) rfl rfl rfl ?_
    refine a_cmpN_lt rfl rfl rfl (by omega) (by omega) (fun c_36 => absurd c_36 (by decide)) (fun _ => ?_)
    refine a_iload_1 rfl rfl ?_
    refine a_iconst (v := (nI 1)) rfl rfl rfl ?_
    refine a_iload_0 rfl rfl ?_
    refine a_bipush (v := (nI 6)) rfl rfl rfl ?_
    refine a_isubN rfl rfl (by decide) ?_
    refine a_ishl rfl rfl ?_
    refine a_ior rfl rfl ?_
    refine a_istore_1 rfl rfl rfl ?_
    refine a_iload_0 rfl rfl ?_
    refine a_bipush (v := (nI 24)) rfl rfl rfl ?_
    refine a_cmpN_ge rfl rfl rfl (by omega) (by omega) (fun c_51 => absurd c_51 (by decide)) (fun _ => ?_)
    refine a_iload_1 rfl rfl ?_
    refine a_iconst (v := (nI 1)) rfl rfl rfl ?_
    refine a_iload_0 rfl rfl ?_
    refine a_bipush (v := (nI 6)) rfl rfl rfl ?_
    refine a_iaddN rfl rfl ?_
    refine a_ishl rfl rfl ?_
    refine a_ior rfl rfl ?_
    refine a_istore_1 rfl rfl rfl ?_
    refine a_iload_1 rfl rfl ?_
    refine av_to (a_iret rfl rfl) ?_
    exact congrArg (fun v => (some (Value.int v), σ)) (by decide +kernel)
  | 23, _ =>
    show avA _ 248 0 [.int (nI 23), mvU] [] _ _
    refine a_iconst (v := (nI 0)) rfl rfl rfl ?_
    refine a_istore_1 rfl rfl rfl ?_
    refine a_iload_0 rfl rfl ?_
    refine a_bipush (v := (nI 6)) rfl rfl rfl ?_
    refine a_iremN rfl rfl (by omega) (by omega) (by omega) ?_
    refine a_ifN_le rfl rfl rfl (by omega) (fun c_6 => absurd c_6 (by decide)) (fun _ => ?_)
    refine a_iload_1 rfl rfl ?_
    refine a_iconst (v := (nI 1)) rfl rfl rfl ?_
    refine a_iload_0 rfl rfl ?_
    refine a_iconst (v := (nI 1)) rfl rfl rfl ?_
    refine a_isubN rfl rfl (by decide) ?_
    refine a_ishl rfl rfl ?_
    refine a_ior rfl rfl ?_
    refine a_istore_1 rfl rfl rfl ?_
    refine a_iload_0 rfl rfl ?_
    refine a_bipush (v := (nI 6)) rfl rfl rfl ?_
    refine a_iremN rfl rfl (by omega) (by omega) (by omega) ?_
    refine a_iconst (v := (nI 5)) rfl rfl rfl ?_
    refine a_cmpN_ge rfl rfl rfl (by omega) (by omega) (fun _ => ?_) (fun c_22 => absurd c_22 (by decide))
    refine a_iload_0 rfl rfl ?_
    refine a_bipush (v := (nI 6)) rfl rfl rfl ?_
    refine a_cmpN_lt rfl rfl rfl (by omega) (by omega) (fun c_36 => absurd c_36 (by decide)) (fun _ => ?_)
    refine a_iload_1 rfl rfl ?_
    refine a_iconst (v := (nI 1)) rfl rfl rfl ?_
    refine a_iload_0 rfl rfl ?_
    refine a_bipush (v := (nI 6)) rfl rfl rfl ?_
    refine a_isubN rfl rfl (by decide) ?_
    refine a_ishl rfl rfl ?_
    refine a_ior rfl rfl ?_
    refine a_istore_1 rfl rfl rfl ?_
    refine a_iload_0 rfl rfl ?_
    refine a_bipush (v := (nI 24)) rfl rfl rfl ?_
    refine a_cmpN_ge rfl rfl rfl (by omega) (by omega) (fun c_51 => absurd c_51 (by decide)) (fun _ => ?_)
    refine a_iload_1 rfl rfl ?_
    refine a_iconst (v := (nI 1)) rfl rfl rfl ?_
    refine a_iload_0 rfl rfl ?_
    refine a_bipush (v := (nI 6)) rfl rfl rfl ?_
    refine a_iaddN rfl rfl ?_
    refine a_ishl rfl rfl ?_
    refine a_ior rfl rfl ?_
    refine a_istore_1 rfl rfl rfl ?_
    refine a_iload_1 rfl rfl ?_
    refine av_to (a_iret rfl rfl) ?_
    exact congrArg (fun v => (some (Value.int v), σ)) (by decide +kernel)
  | 24, _ =>
    show avA _ 248 0 [.int (nI 24), mvU] [] _ _
    refine a_iconst (v := (nI 0)) rfl rfl rfl ?_
    refine a_istore_1 rfl rfl rfl ?_
    refine a_iload_0 rfl rfl ?_
    refine a_bipush (v := (nI 6)) rfl rfl rfl ?_
    refine a_iremN rfl rfl (by omega) (by omega) (by omega) ?_
    refine a_ifN_le rfl rfl rfl (by omega) (fun _ => ?_) (fun c_6 => absurd c_6 (by decide))
    refine a_iload_0 rfl rfl ?_
    refine a_bipush (v := (nI 6)) rfl rfl rfl ?_
    refine a_iremN rfl rfl (by omega) (by omega) (by omega) ?_
    refine a_iconst (v := (nI 5)) rfl rfl rfl ?_
    refine a_cmpN_ge rfl rfl rfl (by omega) (by omega) (fun c_22 => absurd c_22 (by decide)) (fun _ => ?_)
    refine a_iload_1 rfl rfl ?_
    refine a_iconst (v := (nI 1)) rfl rfl rfl ?_
    refine a_iload_0 rfl rfl ?_
    refine a_iconst (v := (nI 1)) rfl rfl rfl ?_
    refine a_iaddN rfl rfl ?_
    refine a_ishl rfl rfl ?_
    refine a_ior rfl rfl ?_
    refine a_istore_1 rfl rfl rfl ?_
    refine a_iload_0 rfl rfl ?_
    refine a_bipush (v := (nI 6)) rfl rfl rfl ?_
    refine a_cmpN_lt rfl rfl rfl (by omega) (by omega) (fun c_36 => absurd c_36 (by decide)) (fun _ => ?_)
    refine a_iload_1 rfl rfl ?_
    refine a_iconst (v := (nI 1)) rfl rfl rfl ?_
    refine a_iload_0 rfl rfl ?_
    refine a_bipush (v := (nI 6)) rfl rfl rfl ?_
    refine a_isubN rfl rfl (by decide) ?_
    refine a_ishl rfl rfl ?_
    refine a_ior rfl rfl ?_
    refine a_istore_1 rfl rfl rfl ?_
    refine a_iload_0 rfl rfl ?_
    refine a_bipush (v := (nI 24)) rfl rfl rfl ?_
    refine a_cmpN_ge rfl rfl rfl (by omega) (by omega) (fun _ => ?_) (fun c_51 => absurd c_51 (by decide))
    refine a_iload_1 rfl rfl ?_
    refine av_to (a_iret rfl rfl) ?_
    exact congrArg (fun v => (some (Value.int v), σ)) (by decide +kernel)
  | 25, _ =>
    show avA _ 248 0 [.int (nI 25), mvU] [] _ _
    refine a_iconst (v := (nI 0)) rfl rfl rfl ?_
    refine a_istore_1 rfl rfl rfl ?_
    refine a_iload_0 rfl rfl ?_
    refine a_bipush (v := (nI 6)) rfl rfl rfl ?_
    refine a_iremN rfl rfl (by omega) (by omega) (by omega) ?_
    refine a_ifN_le rfl rfl rfl (by omega) (fun c_6 => absurd c_6 (by decide)) (fun _ => ?_)
    refine a_iload_1 rfl rfl ?_
    refine a_iconst (v := (nI 1)) rfl rfl rfl ?_
    refine a_iload_0 rfl rfl ?_
    refine a_iconst (v := (nI 1)) rfl rfl rfl ?_
    refine a_isubN rfl rfl (by decide) ?_
    refine a_ishl rfl rfl ?_
    refine a_ior rfl rfl ?_
    refine a_istore_1 rfl rfl rfl ?_
    refine a_iload_0 rfl rfl ?_
    refine a_bipush (v := (nI 6)) rfl rfl rfl ?_
    refine a_iremN rfl rfl (by omega) (by omega) (by omega) ?_
    refine a_iconst (v := (nI 5)) rfl rfl rfl ?_
    refine a_cmpN_ge rfl rfl rfl (by omega) (by omega) (fun c_22 => absurd c_22 (by decide)) (fun _ => ?_)
    refine a_iload_1 rfl rfl ?_
    refine a_iconst (v := (nI 1)) rfl rfl rfl ?_
    refine a_iload_0 rfl rfl ?_
    refine a_iconst (v := (nI 1)) rfl rfl rfl ?_
    refine a_iaddN rfl rfl ?_
    refine a_ishl rfl rfl ?_
    refine a_ior rfl rfl ?_
    refine a_istore_1 rfl rfl rfl ?_
    refine a_iload_0 rfl rfl ?_
    refine a_bipush (v := (nI 6)) rfl rfl rfl ?_
    refine a_cmpN_lt rfl rfl rfl (by omega) (by omega) (fun c_36 => absurd c_36 (by decide)) (fun _ => ?_)
    refine a_iload_1 rfl rfl ?_
    refine a_iconst (v := (nI 1)) rfl rfl rfl ?_
    refine a_iload_0 rfl rfl ?_
    refine a_bipush (v := (nI 6)) rfl rfl rfl ?_
    refine a_isubN rfl rfl (by decide) ?_
    refine a_ishl rfl rfl ?_
    refine a_ior rfl rfl ?_
    refine a_istore_1 rfl rfl rfl ?_
    refine a_iload_0 rfl rfl ?_
    refine a_bipush (v := (nI 24)) rfl rfl rfl ?_
    refine a_cmpN_ge rfl rfl rfl (by omega) (by omega) (fun _ => ?_) (fun c_51 => absurd c_51 (by decide))
    refine a_iload_1 rfl rfl ?_
    refine av_to (a_iret rfl rfl) ?_
    exact congrArg (fun v => (some (Value.int v), σ)) (by decide +kernel)
  | 26, _ =>
    show avA _ 248 0 [.int (nI 26), mvU] [] _ _
    refine a_iconst (v := (nI 0)) rfl rfl rfl ?_
    refine a_istore_1 rfl rfl rfl ?_
    refine a_iload_0 rfl rfl ?_
    refine a_bipush (v := (nI 6)) rfl rfl rfl ?_
    refine a_iremN rfl rfl (by omega) (by omega) (by omega) ?_
    refine a_ifN_le rfl rfl rfl (by omega) (fun c_6 => absurd c_6 (by decide)) (fun _ => ?_)
    refine a_iload_1 rfl rfl ?_
    refine a_iconst (v := (nI 1)) rfl rfl rfl ?_
    refine a_iload_0 rfl rfl ?_
    refine a_iconst (v := (nI 1)) rfl rfl rfl ?_
    refine a_isubN rfl rfl (by decide) ?_
    refine a_ishl rfl rfl ?_
    refine a_ior rfl rfl ?_
    refine a_istore_1 rfl rfl rfl ?_
    refine a_iload_0 rfl rfl ?_
    refine a_bipush (v := (nI 6)) rfl rfl rfl ?_
    refine a_iremN rfl rfl (by omega) (by omega) (by omega) ?_
    refine a_iconst (v := (nI 5)) rfl rfl rfl ?_
    refine a_cmpN_ge rfl rfl rfl (by omega) (by omega) (fun c_22 => absurd c_22 (by decide)) (fun _ => ?_)
    refine a_iload_1 rfl rfl ?_
    refine a_iconst (v := (nI 1)) rfl rfl rfl ?_
    refine a_iload_0 rfl rfl ?_
    refine a_iconst (v := (nI 1)) rfl rfl rfl ?_
    refine a_iaddN rfl rfl ?_
    refine a_ishl rfl rfl ?_
    refine a_ior rfl rfl ?_
    refine a_istore_1 rfl rfl rfl ?_
    refine a_iload_0 rfl rfl ?_
    refine a_bipush (v := (nI 6)) rfl rfl rfl ?_
    refine a_cmpN_lt rfl rfl rfl (by omega) (by omega) (fun c_36 => absurd c_36 (by decide)) (fun _ => ?_)
    refine a_iload_1 rfl rfl ?_
    refine a_iconst (v := (nI 1)) rfl rfl rfl ?_
    refine a_iload_0 rfl rfl ?_
    refine a_bipush (v := (nI 6)) rfl rfl rfl ?_
    refine a_isubN rfl rfl (by decide) ?_
    refine a_ishl rfl rfl ?_
    refine a_ior rfl rfl ?_
    refine a_istore_1 rfl rfl rfl ?_
    refine a_iload_0 rfl rfl ?_
    refine a_bipush (v := (nI 24)) rfl rfl rfl ?_
    refine a_cmpN_ge rfl rfl rfl (by omega) (by omega) (fun _ => ?_) (fun c_51 => absurd c_51 (by decide))
    refine a_iload_1 rfl rfl ?_
    refine av_to (a_iret rfl rfl) ?_
    exact congrArg (fun v => (some (Value.int v), σ)) (by decide +kernel)
  | 27, _ =>
    show avA _ 248 0 [.int (nI 27), mvU] [] _ _
    refine a_iconst (v := (nI 0)) rfl rfl rfl ?_
    refine a_istore_1 rfl rfl rfl ?_
    refine a_iload_0 rfl rfl ?_
    refine a_bipush (v := (nI 6)) rfl rfl rfl ?_
    refine a_iremN rfl rfl (by omega) (by omega) (by omega) ?_
    refine a_ifN_le rfl rfl rfl (by omega) (fun c_6 => absurd c_6 (by decide)) (fun _ => ?_)
    refine a_iload_1 rfl rfl ?_
    refine a_iconst (v := (nI 1)) rfl rfl rfl ?_
    refine a_iload_0 rfl rfl ?_
    refine a_iconst (v := (nI 1)) rfl rfl rfl ?_
    refine a_isubN rfl rfl (by decide) ?_
    refine a_ishl rfl rfl ?_
    refine a_ior rfl rfl ?_
    refine a_istore_1 rfl rfl rfl ?_
    refine a_iload_0 rfl rfl ?_
    refine a_bipush (v := (nI 6)) rfl rfl rfl ?_
    refine a_iremN rfl rfl (by omega) (by omega) (by omega) ?_
    refine a_iconst (v := (nI 5)) rfl rfl rfl ?_
    refine a_cmpN_ge rfl rfl rfl (by omega) (by omega) (fun c_22 => absurd c_22 (by decide)) (fun _ => ?_)
    refine a_iload_1 rfl rfl ?_
    refine a_iconst (v := (nI 1)) rfl rfl rfl ?_
    refine a_iload_0 rfl rfl ?_
    refine a_iconst (v := (nI 1)) rfl rfl rfl ?_
    refine a_iaddN rfl rfl ?_
    refine a_ishl rfl rfl ?_
    refine a_ior rfl rfl ?_
    refine a_istore_1 rfl rfl rfl ?_
    refine a_iload_0 rfl rfl ?_
    refine a_bipush (v := (nI 6)) rfl rfl rfl ?_
    refine a_cmpN_lt rfl rfl rfl (by omega) (by omega) (fun c_36 => absurd c_36 (by decide)) (fun _ => ?_)
    refine a_iload_1 rfl rfl ?_
    refine a_iconst (v := (nI 1)) rfl rfl rfl ?_
    refine a_iload_0 rfl rfl ?_
    refine a_bipush (v := (nI 6)) rfl rfl rfl ?_
    refine a_isubN rfl rfl (by decide) ?_
    refine a_ishl rfl rfl ?_
    refine a_ior rfl rfl ?_
    refine a_istore_1 rfl rfl rfl ?_
    refine a_iload_0 rfl rfl ?_
    refine a_bipush (v := (nI 24)) rfl rfl rfl ?_
    refine a_cmpN_ge rfl rfl rfl (by omega) (by omega) (fun _ => ?_) (fun c_51 => absurd c_51 (by decide))
    refine a_iload_1 rfl rfl ?_
    refine av_to (a_iret rfl rfl) ?_
    exact congrArg (fun v => (some (Value.int v), σ)) (by decide +kernel)
  | 28, _ =>
    show avA _ 248 0 [.int (nI 28), mvU] [] _ _
    refine a_iconst (v := (nI 0)) rfl rfl rfl ?_
    refine a_istore_1 rfl rfl rfl ?_
    refine a_iload_0 rfl rfl ?_
    refine a_bipush (v := (nI 6)) rfl rfl rfl ?_
    refine a_iremN rfl rfl (by omega) (by omega) (by omega) ?_
    refine a_ifN_le rfl rfl rfl (by omega) (fun c_6 => absurd c_6 (by decide)) (fun _ => ?_)
    refine a_iload_1 rfl rfl ?_
    refine a_iconst (v := (nI 1)) rfl rfl rfl ?_
    refine a_iload_0 rfl rfl ?_
    refine a_iconst (v := (nI 1)) rfl rfl rfl ?_
    refine a_isubN rfl rfl (by decide) ?_
    refine a_ishl rfl rfl ?_
    refine a_ior rfl rfl ?_
    refine a_istore_1 rfl rfl rfl ?_
    refine a_iload_0 rfl rfl ?_
    refine a_bipush (v := (nI 6)) rfl rfl rfl ?_
    refine a_iremN rfl rfl (by omega) (by omega) (by omega) ?_
    refine a_iconst (v := (nI 5)) rfl rfl rfl ?_
    refine a_cmpN_ge rfl rfl rfl (by omega) (by omega) (fun c_22 => absurd c_22 (by decide)) (fun _ => ?_)
    refine a_iload_1 rfl rfl ?_
    refine a_iconst (v := (nI 1)) rfl rfl rfl ?_
    refine a_iload_0 rfl rfl ?_
    refine a_iconst (v := (nI 1)) rfl rfl rfl ?_
    refine a_iaddN rfl rfl ?_
    refine a_ishl rfl rfl ?_
    refine a_ior rfl rfl ?_
    refine a_istore_1 rfl rfl rfl ?_
    refine a_iload_0 rfl rfl ?_
    refine a_bipush (v := (nI 6)) rfl rfl rfl ?_
    refine a_cmpN_lt rfl rfl rfl (by omega) (by omega) (fun c_36 => absurd c_36 (by decide)) (fun _ => ?_)
    refine a_iload_1 rfl rfl ?_
    refine a_iconst (v := (nI 1)) rfl rfl rfl ?_
    refine a_iload_0 rfl rfl ?_
    refine a_bipush (v := (nI 6)) rfl rfl rfl ?_
    refine a_isubN rfl rfl (by decide) ?_
    refine a_ishl rfl rfl ?_
    refine a_ior rfl rfl ?_
    refine a_istore_1 rfl rfl rfl ?_
    refine a_iload_0 rfl rfl ?_
    refine a_bipush (v := (nI 24)) rfl rfl rfl ?_
    refine a_cmpN_ge rfl rfl rfl (by omega) (by omega) (fun _ => ?_) (fun c_51 => absurd c_51 (by decide))
    refine a_iload_1 rfl rfl ?_
    refine av_to (a_iret rfl rfl) ?_
    exact congrArg (fun v => (some (Value.int v), σ)) (by decide +kernel)
  | 29, _ =>
    show avA _ 248 0 [.int (nI 29), mvU] [] _ _
    refine a_iconst (v := (nI 0)) rfl rfl rfl ?_
    refine a_istore_1 rfl rfl rfl ?_
    refine a_iload_0 rfl rfl ?_
    refine a_bipush (v := (nI 6)) rfl rfl rfl ?_
    refine a_iremN rfl rfl (by omega) (by omega) (by omega) ?_
    refine a_ifN_le rfl rfl rfl (by omega) (fun c_6 => absurd c_6 (by decide)) (fun _ => ?_)
    refine a_iload_1 rfl rfl ?_
    refine a_iconst (v := (nI 1)) rfl rfl rfl ?_
    refine a_iload_0 rfl rfl ?_
    refine a_iconst (v := (nI 1)) rfl rfl rfl ?_
    refine a_isubN rfl rfl (by decide) ?_
    refine a_ishl rfl rfl ?_
    refine a_ior rfl rfl ?_
    refine a_istore_1 rfl rfl rfl ?_
    refine a_iload_0 rfl rfl ?_
    refine a_bipush (v := (nI 6)) rfl rfl rfl ?_
    refine a_iremN rfl rfl (by omega) (by omega) (by omega) ?_
    refine a_iconst (v := (nI 5)) rfl rfl rfl ?_
    refine a_cmpN_ge rfl rfl rfl (by omega) (by omega) (fun _ => ?_) (fun c_22 => absurd c_22 (by decide))
    refine a_iload_0 rfl rfl ?_
    refine a_bipush (v := (nI 6)) rfl rfl rfl ?_
    refine a_cmpN_lt rfl rfl rfl (by omega) (by omega) (fun c_36 => absurd c_36 (by decide)) (fun _ => ?_)
    refine a_iload_1 rfl rfl ?_
    refine a_iconst (v := (nI 1)) rfl rfl rfl ?_
    refine a_iload_0 rfl rfl ?_
    refine a_bipush (v := (nI 6)) rfl rfl rfl ?_
    refine a_isubN rfl rfl (by decide) ?_
    refine a_ishl rfl rfl ?_
    refine a_ior rfl rfl ?_
    refine a_istore_1 rfl rfl rfl ?_
    refine a_iload_0 rfl rfl ?_
    refine a_bipush (v := (nI 24)) rfl rfl rfl ?_
    refine a_cmpN_ge rfl rfl rfl (by omega) (by omega) (fun _ => ?_) (fun c_51 => absurd c_51 (by decide))
    refine a_iload_1 rfl rfl ?_
    refine av_to (a_iret rfl rfl) ?_
    exact congrArg (fun v => (some (Value.int v), σ)) (by decide +kernel)
  | n + 30, h => exact absurd h (by omega)
theorem nb_or (p q : Nat → Bool) (j : Nat) : nb (fun i => p i || q i) j = (nb p j || nb q j) := by
  unfold nb
  cases decide (0 < j % 6) <;> cases decide (j % 6 < 5) <;> cases decide (6 ≤ j) <;> cases decide (j < 24) <;> simp <;> cases p (j - 1) <;> cases p (j + 1) <;> cases p (j - 6) <;> cases p (j + 6) <;> simp
theorem nb_0 (j : Nat) : nb (fun _ => false) j = false := by simp [nb]
theorem nb_and (b : Bool) (p : Nat → Bool) (j : Nat) : nb (fun i => b && p i) j = (b && nb p j) := by
  cases b
  · simp [nb]
  · simp
/-- the first n of a set -/
def upto (n : Nat) (p : Nat → Bool) : Nat → Bool := fun j => decide (j < n) && p j
theorem upto_s (n : Nat) (p : Nat → Bool) : upto (n + 1) p = fun j => upto n p j || (p n && decide (j = n)) := by
  funext j
  unfold upto
  by_cases h : j = n
  · subst h; simp
  · have e : decide (j < n + 1) = decide (j < n) := decide_eq_decide.mpr (by omega)
    simp [h, e]
theorem l_spread {σ : mvSt} (p : Nat → Bool) (m : Nat) : ∀ (i : Nat), i + m = 30 → avA 1 247 4 [.int (bsI 30 p), .int (bsI 30 (fun j => p j || nb (upto i p) j)), .int (nI i)] [] σ (some (.int (bsI 30 (fun j => p j || nb p j))), σ) := by
  induction m with
  | zero =>
    intro i hi
    have e : i = 30 := by omega
    subst e
    refine a_iload_2 rfl rfl ?_
    refine a_bipush (v := (nI 30)) rfl rfl rfl ?_
    refine a_cmpN_ge rfl rfl rfl (by omega) (by omega) (fun _ => ?_) (fun c_7 => absurd c_7 (by decide))
    refine a_iload_1 rfl rfl ?_
    refine av_to (a_iret rfl rfl) ?_
    refine congrArg (fun v => (some (Value.int v), σ)) (bs_ext (fun j hj => ?_))
    rw [nb_ext (q := p) (fun i hi => by simp [upto, hi]) j hj]
  | succ m ih =>
    intro i hi
    refine a_iload_2 rfl rfl ?_
    refine a_bipush (v := (nI 30)) rfl rfl rfl ?_
    refine a_cmpN_ge rfl rfl rfl (by omega) (by omega) (fun c_7 => False.elim (by omega)) (fun _ => ?_)
    refine a_iload_1 rfl rfl ?_
    refine a_iload_0 rfl rfl ?_
    refine a_iload_2 rfl rfl ?_
    refine a_statI rfl rfl (r_has (bsI 30 p) i (by omega)) (Nat.le_of_ble_eq_true rfl) ⟨rfl, rfl, rfl⟩ rfl rfl rfl (Nat.le_of_ble_eq_true rfl) rfl ?_
    refine a_ifb_eq rfl rfl rfl (fun c_16 => ?_) (fun c_16 => ?_)
    · rw [tb_bs (by omega)] at c_16
      have hp : p i = false := by simpa [show i < 30 by omega] using c_16
      refine a_iconst (v := (nI 0)) rfl rfl rfl ?_
      refine a_ior rfl rfl ?_
      refine a_istore_1 rfl rfl rfl ?_
      refine a_iinc_2 rfl rfl (nI_inc _ _) rfl ?_
      refine a_goto rfl rfl ?_
      have e := ih (i + 1) (by omega)
      rw [upto_s] at e
      simp only [nb_or, nb_and, hp] at e
      first | (simp only [Bool.true_and] at e; rw [bs_or (by omega)]; simp only [Bool.or_assoc] at e ⊢; exact e) | (simp only [Bool.false_and, Bool.or_false] at e; rw [show nI 0 = 0 from rfl, Int32.or_zero]; exact e)
    · rw [tb_bs (by omega)] at c_16
      have hp : p i = true := by simpa [show i < 30 by omega] using c_16
      refine a_iload_2 rfl rfl ?_
      refine a_statI rfl rfl (r_beside i (by omega)) (Nat.le_of_ble_eq_true rfl) ⟨rfl, rfl, rfl⟩ rfl rfl rfl (Nat.le_of_ble_eq_true rfl) rfl ?_
      refine a_goto rfl rfl ?_
      refine a_ior rfl rfl ?_
      refine a_istore_1 rfl rfl rfl ?_
      refine a_iinc_2 rfl rfl (nI_inc _ _) rfl ?_
      refine a_goto rfl rfl ?_
      have e := ih (i + 1) (by omega)
      rw [upto_s] at e
      simp only [nb_or, nb_and, hp] at e
      first | (simp only [Bool.true_and] at e; rw [bs_or (by omega)]; simp only [Bool.or_assoc] at e ⊢; exact e) | (simp only [Bool.false_and, Bool.or_false] at e; rw [show nI 0 = 0 from rfl, Int32.or_zero]; exact e)
theorem r_spread {σ : mvSt} (p : Nat → Bool) : avE 1 247 [.int (bsI 30 p)] σ (some (.int (bsI 30 (fun j => p j || nb p j))), σ) := by
  show avA _ 247 0 [.int (bsI 30 p), mvU, mvU] [] _ _
  refine a_iload_0 rfl rfl ?_
  refine a_istore_1 rfl rfl rfl ?_
  refine a_iconst (v := (nI 0)) rfl rfl rfl ?_
  refine a_istore_2 rfl rfl rfl ?_
  have e := l_spread (σ := σ) p 30 0 rfl
  rw [show (fun j => p j || nb (upto 0 p) j) = p from funext fun j => by rw [show upto 0 p = fun _ => false from rfl, nb_0, Bool.or_false]] at e
  exact e
