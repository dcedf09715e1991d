/-! LEAVES: small methods of the class and of the reference that touch no heap -/
theorem e_isWithin {σ : mvSt} (v : Int32) (m : Nat) (hm : m < 2 ^ 31) : avE 0 21 [.int v, .int (nI m)] σ (some (.int (bI (0 ≤ v.toInt ∧ v.toInt ≤ m))), σ) := by
  show avA _ 21 0 [.int (v), .int (nI (m))] [] _ _
  refine a_iload_0 rfl rfl ?_
  refine a_ifI_lt rfl rfl rfl rfl (fun c_1 => ?_) (fun c_1 => ?_)
  · refine a_iconst (v := (nI 0)) rfl rfl rfl ?_
    refine av_to (a_zret rfl rfl (Or.inl rfl)) (bz0 ?_)
    omega
  · refine a_iload_0 rfl rfl ?_
    refine a_iload_1 rfl rfl ?_
    refine a_cmpI_gt rfl rfl rfl rfl (nI_toInt (by omega)) (fun c_6 => ?_) (fun c_6 => ?_)
    · refine a_iconst (v := (nI 0)) rfl rfl rfl ?_
      refine av_to (a_zret rfl rfl (Or.inl rfl)) (bz0 ?_)
      omega
    · refine a_iconst (v := (nI 1)) rfl rfl rfl ?_
      refine a_goto rfl rfl ?_
      refine av_to (a_zret rfl rfl (Or.inr rfl)) (bz1 ?_)
      omega
theorem e_isCell {σ : mvSt} (c : Int32) : avE 0 20 [.int c] σ (some (.int (bI (0 ≤ c.toInt ∧ c.toInt < 30))), σ) := by
  show avA _ 20 0 [.int (c)] [] _ _
  refine a_iload_0 rfl rfl ?_
  refine a_ifI_lt rfl rfl rfl rfl (fun c_1 => ?_) (fun c_1 => ?_)
  · refine a_iconst (v := (nI 0)) rfl rfl rfl ?_
    refine av_to (a_zret rfl rfl (Or.inl rfl)) (bz0 ?_)
    omega
  · refine a_iload_0 rfl rfl ?_
    refine a_bipush (v := (nI 30)) rfl rfl rfl ?_
    refine a_cmpI_ge rfl rfl rfl rfl (nI_toInt (by omega)) (fun c_7 => ?_) (fun c_7 => ?_)
    · refine a_iconst (v := (nI 0)) rfl rfl rfl ?_
      refine av_to (a_zret rfl rfl (Or.inl rfl)) (bz0 ?_)
      omega
    · refine a_iconst (v := (nI 1)) rfl rfl rfl ?_
      refine a_goto rfl rfl ?_
      refine av_to (a_zret rfl rfl (Or.inr rfl)) (bz1 ?_)
      omega
theorem e_has {σ : mvSt} (x : Int32) (i : Nat) (hi : i < 32) : avE 0 31 [.int x, .int (nI i)] σ (some (.int (bI (tb x i = true))), σ) := by
  show avA _ 31 0 [.int (x), .int (nI (i))] [] _ _
  refine a_iload_0 rfl rfl ?_
  refine a_iload_1 rfl rfl ?_
  refine a_ishr rfl rfl ?_
  refine a_iconst (v := (nI 1)) rfl rfl rfl ?_
  refine a_iand rfl rfl ?_
  refine a_if_eq rfl rfl rfl (fun c_5 => ?_) (fun c_5 => ?_)
  · refine a_iconst (v := (nI 0)) rfl rfl rfl ?_
    refine av_to (a_zret rfl rfl (Or.inl rfl)) (bz0 ?_)
    rw [tb_has x hi] at c_5; first | exact c_5 | exact Decidable.of_not_not c_5
  · refine a_iconst (v := (nI 1)) rfl rfl rfl ?_
    refine a_goto rfl rfl ?_
    refine av_to (a_zret rfl rfl (Or.inr rfl)) (bz1 ?_)
    rw [tb_has x hi] at c_5; first | exact c_5 | exact Decidable.of_not_not c_5
theorem e_clip {σ : mvSt} (v m : Int32) : avE 0 107 [.int v, .int m] σ (some (.int (if 0 < (if v < m then v else m) then (if v < m then v else m) else 0)), σ) := by
  show avA _ 107 0 [.int (v), .int (m)] [] _ _
  refine a_iconst (v := (nI 0)) rfl rfl rfl ?_
  refine a_iload_1 rfl rfl ?_
  refine a_iload_0 rfl rfl ?_
  refine a_min rfl rfl (Nat.le_of_ble_eq_true rfl) ?_
  refine a_max rfl rfl (Nat.le_of_ble_eq_true rfl) ?_
  exact a_iret rfl rfl
theorem e_phaseAt {σ : mvSt} (x : Nat) (hx : x < 2 ^ 31) : avE 0 100 [.int (nI x)] σ (some (.int (nI (x / 24 % 30))), σ) := by
  show avA _ 100 0 [.int (nI (x))] [] _ _
  refine a_iload_0 rfl rfl ?_
  refine a_bipush (v := (nI 24)) rfl rfl rfl ?_
  refine a_idivN rfl rfl (by omega) (by omega) (by omega) ?_
  refine a_bipush (v := (nI 30)) rfl rfl rfl ?_
  refine a_iremN rfl rfl (by omega) (by omega) (by omega) ?_
  exact a_iret rfl rfl
def szN (x : Nat) : Nat := if x / 24 % 30 < 15 then x / 24 % 30 else 30 - x / 24 % 30
theorem e_sizeAt {σ : mvSt} (x : Nat) (hx : x < 2 ^ 31) : avE 1 99 [.int (nI x)] σ (some (.int (nI (szN x))), σ) := by
  show avA _ 99 0 [.int (nI (x)), mvU] [] _ _
  refine a_iload_0 rfl rfl ?_
  refine a_statI rfl rfl (e_phaseAt x hx) (Nat.le_of_ble_eq_true rfl) ⟨rfl, rfl, rfl⟩ rfl rfl rfl (Nat.le_of_ble_eq_true rfl) rfl ?_
  refine a_istore_1 rfl rfl rfl ?_
  refine a_iload_1 rfl rfl ?_
  refine a_bipush (v := (nI 15)) rfl rfl rfl ?_
  refine a_cmpN_ge rfl rfl rfl (by omega) (by omega) (fun c_8 => ?_) (fun c_8 => ?_)
  · refine a_bipush (v := (nI 30)) rfl rfl rfl ?_
    refine a_iload_1 rfl rfl ?_
    refine a_isubN rfl rfl (by omega) ?_
    refine av_to (a_iret rfl rfl) ?_
    unfold szN
    first | rw [if_pos (by omega)] | rw [if_neg (by omega)]
  · refine a_iload_1 rfl rfl ?_
    refine a_goto rfl rfl ?_
    refine av_to (a_iret rfl rfl) ?_
    unfold szN
    first | rw [if_pos (by omega)] | rw [if_neg (by omega)]
theorem r_isIn {σ : mvSt} (v lo hi : Int32) : avE 0 185 [.int v, .int lo, .int hi] σ (some (.int (bI (lo.toInt ≤ v.toInt ∧ v.toInt ≤ hi.toInt))), σ) := by
  show avA _ 185 0 [.int (v), .int (lo), .int (hi)] [] _ _
  refine a_iload_0 rfl rfl ?_
  refine a_iload_1 rfl rfl ?_
  refine a_cmpI_lt rfl rfl rfl rfl rfl (fun c_2 => ?_) (fun c_2 => ?_)
  · refine a_iconst (v := (nI 0)) rfl rfl rfl ?_
    refine av_to (a_zret rfl rfl (Or.inl rfl)) (bz0 ?_)
    omega
  · refine a_iload_0 rfl rfl ?_
    refine a_iload_2 rfl rfl ?_
    refine a_cmpI_gt rfl rfl rfl rfl rfl (fun c_7 => ?_) (fun c_7 => ?_)
    · refine a_iconst (v := (nI 0)) rfl rfl rfl ?_
      refine av_to (a_zret rfl rfl (Or.inl rfl)) (bz0 ?_)
      omega
    · refine a_iconst (v := (nI 1)) rfl rfl rfl ?_
      refine a_goto rfl rfl ?_
      refine av_to (a_zret rfl rfl (Or.inr rfl)) (bz1 ?_)
      omega
theorem r_isCell {σ : mvSt} (c : Int32) : avE 1 184 [.int c] σ (some (.int (bI (0 ≤ c.toInt ∧ c.toInt < 30))), σ) := by
  show avA _ 184 0 [.int (c)] [] _ _
  refine a_iload_0 rfl rfl ?_
  refine a_iconst (v := (nI 0)) rfl rfl rfl ?_
  refine a_bipush (v := (nI 29)) rfl rfl rfl ?_
  refine a_statI rfl rfl (r_isIn c (nI 0) (nI 29)) (Nat.le_of_ble_eq_true rfl) ⟨rfl, rfl, rfl⟩ rfl rfl rfl (Nat.le_of_ble_eq_true rfl) rfl ?_
  refine av_to (a_zret rfl rfl (bI_01 _)) ?_
  rw [bI_iff (q := 0 ≤ c.toInt ∧ c.toInt < 30)]
  rw [show (nI 0).toInt = 0 from rfl, show (nI 29).toInt = 29 from rfl]
  omega
theorem r_has {σ : mvSt} (x : Int32) (i : Nat) (hi : i < 32) : avE 0 211 [.int x, .int (nI i)] σ (some (.int (bI (tb x i = true))), σ) := by
  show avA _ 211 0 [.int (x), .int (nI (i))] [] _ _
  refine a_iload_0 rfl rfl ?_
  refine a_iload_1 rfl rfl ?_
  refine a_ishr rfl rfl ?_
  refine a_iconst (v := (nI 1)) rfl rfl rfl ?_
  refine a_iand rfl rfl ?_
  refine a_as (y := nI ((if tb x i then 1 else 0))) (tb_hasI x hi) ?_
  refine a_iconst (v := (nI 1)) rfl rfl rfl ?_
  refine a_cmpN_ne rfl rfl rfl (by split <;> omega) (by omega) (fun c_6 => ?_) (fun c_6 => ?_)
  · refine a_iconst (v := (nI 0)) rfl rfl rfl ?_
    refine av_to (a_zret rfl rfl (Or.inl rfl)) (bz0 ?_)
    cases h : tb x i <;> simp_all
  · refine a_iconst (v := (nI 1)) rfl rfl rfl ?_
    refine a_goto rfl rfl ?_
    refine av_to (a_zret rfl rfl (Or.inr rfl)) (bz1 ?_)
    cases h : tb x i <;> simp_all
theorem r_sizeOf {σ : mvSt} (x : Nat) (hx : x ≤ 30) : avE 0 255 [.int (nI x)] σ (some (.int (nI (if x < 15 then x else 30 - x))), σ) := by
  show avA _ 255 0 [.int (nI (x))] [] _ _
  refine a_iload_0 rfl rfl ?_
  refine a_bipush (v := (nI 15)) rfl rfl rfl ?_
  refine a_cmpN_ge rfl rfl rfl (by omega) (by omega) (fun c_3 => ?_) (fun c_3 => ?_)
  · refine a_bipush (v := (nI 30)) rfl rfl rfl ?_
    refine a_iload_0 rfl rfl ?_
    refine a_isubN rfl rfl (by omega) ?_
    refine av_to (a_iret rfl rfl) ?_
    first | rw [if_pos (by omega)] | rw [if_neg (by omega)]
  · refine a_iload_0 rfl rfl ?_
    refine a_goto rfl rfl ?_
    refine av_to (a_iret rfl rfl) ?_
    first | rw [if_pos (by omega)] | rw [if_neg (by omega)]
theorem r_isRim {σ : mvSt} (x : Nat) (hx : x < 30) : avE 0 311 [.int (nI x)] σ (some (.int (bI (x % 6 = 0 ∨ x % 6 = 5 ∨ x < 6 ∨ 24 ≤ x))), σ) := by
  show avA _ 311 0 [.int (nI (x))] [] _ _
  refine a_iload_0 rfl rfl ?_
  refine a_bipush (v := (nI 6)) rfl rfl rfl ?_
  refine a_iremN rfl rfl (by omega) (by omega) (by omega) ?_
  refine a_ifN_eq rfl rfl rfl (by omega) (fun c_4 => ?_) (fun c_4 => ?_)
  · refine a_iconst (v := (nI 1)) rfl rfl rfl ?_
    refine a_goto rfl rfl ?_
    refine av_to (a_zret rfl rfl (Or.inr rfl)) (bz1 ?_)
    omega
  · refine a_iload_0 rfl rfl ?_
    refine a_bipush (v := (nI 6)) rfl rfl rfl ?_
    refine a_iremN rfl rfl (by omega) (by omega) (by omega) ?_
    refine a_iconst (v := (nI 5)) rfl rfl rfl ?_
    refine a_cmpN_eq rfl rfl rfl (by omega) (by omega) (fun c_12 => ?_) (fun c_12 => ?_)
    · refine a_iconst (v := (nI 1)) rfl rfl rfl ?_
      refine a_goto rfl rfl ?_
      refine av_to (a_zret rfl rfl (Or.inr rfl)) (bz1 ?_)
      omega
    · refine a_iload_0 rfl rfl ?_
      refine a_bipush (v := (nI 6)) rfl rfl rfl ?_
      refine a_cmpN_lt rfl rfl rfl (by omega) (by omega) (fun c_18 => ?_) (fun c_18 => ?_)
      · refine a_iconst (v := (nI 1)) rfl rfl rfl ?_
        refine a_goto rfl rfl ?_
        refine av_to (a_zret rfl rfl (Or.inr rfl)) (bz1 ?_)
        omega
      · refine a_iload_0 rfl rfl ?_
        refine a_bipush (v := (nI 24)) rfl rfl rfl ?_
        refine a_cmpN_lt rfl rfl rfl (by omega) (by omega) (fun c_24 => ?_) (fun c_24 => ?_)
        · refine a_iconst (v := (nI 0)) rfl rfl rfl ?_
          refine av_to (a_zret rfl rfl (Or.inl rfl)) (bz0 ?_)
          omega
        · refine a_iconst (v := (nI 1)) rfl rfl rfl ?_
          refine a_goto rfl rfl ?_
          refine av_to (a_zret rfl rfl (Or.inr rfl)) (bz1 ?_)
          omega
/-- what an operator binds like -/
def rkN (o : Nat) : Nat := if 40 ≤ o then 0 else if o = 22 then 1 else if o = 21 then 2 else if o = 20 then 3 else if 10 ≤ o then 4 else if o = 5 ∨ o = 2 ∨ o = 4 then 7 else if 8 ≤ o then 6 else 5
theorem r_rank {σ : mvSt} (o : Nat) (ho : o < 2 ^ 31) : avE 0 223 [.int (nI o)] σ (some (.int (nI (rkN o))), σ) := by
  show avA _ 223 0 [.int (nI (o))] [] _ _
  refine a_iload_0 rfl rfl ?_
  refine a_bipush (v := (nI 40)) rfl rfl rfl ?_
  refine a_cmpN_lt rfl rfl rfl (by omega) (by omega) (fun c_3 => ?_) (fun c_3 => ?_)
  · refine a_iload_0 rfl rfl ?_
    refine a_bipush (v := (nI 22)) rfl rfl rfl ?_
    refine a_cmpN_ne rfl rfl rfl (by omega) (by omega) (fun c_13 => ?_) (fun c_13 => ?_)
    · refine a_iload_0 rfl rfl ?_
      refine a_bipush (v := (nI 21)) rfl rfl rfl ?_
      refine a_cmpN_ne rfl rfl rfl (by omega) (by omega) (fun c_23 => ?_) (fun c_23 => ?_)
      · refine a_iload_0 rfl rfl ?_
        refine a_bipush (v := (nI 20)) rfl rfl rfl ?_
        refine a_cmpN_ne rfl rfl rfl (by omega) (by omega) (fun c_33 => ?_) (fun c_33 => ?_)
        · refine a_iload_0 rfl rfl ?_
          refine a_bipush (v := (nI 10)) rfl rfl rfl ?_
          refine a_cmpN_lt rfl rfl rfl (by omega) (by omega) (fun c_43 => ?_) (fun c_43 => ?_)
          · refine a_iload_0 rfl rfl ?_
            refine a_iconst (v := (nI 5)) rfl rfl rfl ?_
            refine a_cmpN_eq rfl rfl rfl (by omega) (by omega) (fun c_52 => ?_) (fun c_52 => ?_)
            · refine a_bipush (v := (nI 7)) rfl rfl rfl ?_
              refine a_goto rfl rfl ?_
              refine av_to (a_iret rfl rfl) ?_
              unfold rkN
              (repeat' split) <;> first | rfl | (exfalso; omega)
            · refine a_iload_0 rfl rfl ?_
              refine a_iconst (v := (nI 2)) rfl rfl rfl ?_
              refine a_cmpN_eq rfl rfl rfl (by omega) (by omega) (fun c_57 => ?_) (fun c_57 => ?_)
              · refine a_bipush (v := (nI 7)) rfl rfl rfl ?_
                refine a_goto rfl rfl ?_
                refine av_to (a_iret rfl rfl) ?_
                unfold rkN
                (repeat' split) <;> first | rfl | (exfalso; omega)
              · refine a_iload_0 rfl rfl ?_
                refine a_iconst (v := (nI 4)) rfl rfl rfl ?_
                refine a_cmpN_ne rfl rfl rfl (by omega) (by omega) (fun c_62 => ?_) (fun c_62 => ?_)
                · refine a_iload_0 rfl rfl ?_
                  refine a_bipush (v := (nI 8)) rfl rfl rfl ?_
                  refine a_cmpN_lt rfl rfl rfl (by omega) (by omega) (fun c_73 => ?_) (fun c_73 => ?_)
                  · refine a_iconst (v := (nI 5)) rfl rfl rfl ?_
                    refine av_to (a_iret rfl rfl) ?_
                    unfold rkN
                    (repeat' split) <;> first | rfl | (exfalso; omega)
                  · refine a_bipush (v := (nI 6)) rfl rfl rfl ?_
                    refine a_goto rfl rfl ?_
                    refine av_to (a_iret rfl rfl) ?_
                    unfold rkN
                    (repeat' split) <;> first | rfl | (exfalso; omega)
                · refine a_bipush (v := (nI 7)) rfl rfl rfl ?_
                  refine a_goto rfl rfl ?_
                  refine av_to (a_iret rfl rfl) ?_
                  unfold rkN
                  (repeat' split) <;> first | rfl | (exfalso; omega)
          · refine a_iconst (v := (nI 4)) rfl rfl rfl ?_
            refine a_goto rfl rfl ?_
            refine av_to (a_iret rfl rfl) ?_
            unfold rkN
            (repeat' split) <;> first | rfl | (exfalso; omega)
        · refine a_iconst (v := (nI 3)) rfl rfl rfl ?_
          refine a_goto rfl rfl ?_
          refine av_to (a_iret rfl rfl) ?_
          unfold rkN
          (repeat' split) <;> first | rfl | (exfalso; omega)
      · refine a_iconst (v := (nI 2)) rfl rfl rfl ?_
        refine a_goto rfl rfl ?_
        refine av_to (a_iret rfl rfl) ?_
        unfold rkN
        (repeat' split) <;> first | rfl | (exfalso; omega)
    · refine a_iconst (v := (nI 1)) rfl rfl rfl ?_
      refine a_goto rfl rfl ?_
      refine av_to (a_iret rfl rfl) ?_
      unfold rkN
      (repeat' split) <;> first | rfl | (exfalso; omega)
  · refine a_iconst (v := (nI 0)) rfl rfl rfl ?_
    refine a_goto rfl rfl ?_
    refine av_to (a_iret rfl rfl) ?_
    unfold rkN
    (repeat' split) <;> first | rfl | (exfalso; omega)
theorem e_isLaw {σ : mvSt} (x : Nat) (hx : x < 2 ^ 31) : avE 0 56 [.int (nI x)] σ (some (.int (bI (11 ≤ x ∧ x ≤ 13))), σ) := by
  show avA _ 56 0 [.int (nI (x))] [] _ _
  refine a_iload_0 rfl rfl ?_
  refine a_bipush (v := (nI 11)) rfl rfl rfl ?_
  refine a_cmpN_lt rfl rfl rfl (by omega) (by omega) (fun c_3 => ?_) (fun c_3 => ?_)
  · refine a_iconst (v := (nI 0)) rfl rfl rfl ?_
    refine av_to (a_zret rfl rfl (Or.inl rfl)) (bz0 ?_)
    omega
  · refine a_iload_0 rfl rfl ?_
    refine a_bipush (v := (nI 13)) rfl rfl rfl ?_
    refine a_cmpN_gt rfl rfl rfl (by omega) (by omega) (fun c_9 => ?_) (fun c_9 => ?_)
    · refine a_iconst (v := (nI 0)) rfl rfl rfl ?_
      refine av_to (a_zret rfl rfl (Or.inl rfl)) (bz0 ?_)
      omega
    · refine a_iconst (v := (nI 1)) rfl rfl rfl ?_
      refine a_goto rfl rfl ?_
      refine av_to (a_zret rfl rfl (Or.inr rfl)) (bz1 ?_)
      omega
theorem e_isDeed {σ : mvSt} (x : Nat) (hx : x < 2 ^ 31) : avE 0 57 [.int (nI x)] σ (some (.int (bI (14 ≤ x ∧ x ≤ 18 ∨ x = 5 ∨ x = 0))), σ) := by
  show avA _ 57 0 [.int (nI (x))] [] _ _
  refine a_iload_0 rfl rfl ?_
  refine a_bipush (v := (nI 14)) rfl rfl rfl ?_
  refine a_cmpN_lt rfl rfl rfl (by omega) (by omega) (fun c_3 => ?_) (fun c_3 => ?_)
  · refine a_iload_0 rfl rfl ?_
    refine a_iconst (v := (nI 5)) rfl rfl rfl ?_
    refine a_cmpN_eq rfl rfl rfl (by omega) (by omega) (fun c_14 => ?_) (fun c_14 => ?_)
    · refine a_iconst (v := (nI 1)) rfl rfl rfl ?_
      refine a_goto rfl rfl ?_
      refine av_to (a_zret rfl rfl (Or.inr rfl)) (bz1 ?_)
      omega
    · refine a_iload_0 rfl rfl ?_
      refine a_ifN_ne rfl rfl rfl (by omega) (fun c_18 => ?_) (fun c_18 => ?_)
      · refine a_iconst (v := (nI 0)) rfl rfl rfl ?_
        refine av_to (a_zret rfl rfl (Or.inl rfl)) (bz0 ?_)
        omega
      · refine a_iconst (v := (nI 1)) rfl rfl rfl ?_
        refine a_goto rfl rfl ?_
        refine av_to (a_zret rfl rfl (Or.inr rfl)) (bz1 ?_)
        omega
  · refine a_iload_0 rfl rfl ?_
    refine a_bipush (v := (nI 18)) rfl rfl rfl ?_
    refine a_cmpN_le rfl rfl rfl (by omega) (by omega) (fun c_9 => ?_) (fun c_9 => ?_)
    · refine a_iconst (v := (nI 1)) rfl rfl rfl ?_
      refine a_goto rfl rfl ?_
      refine av_to (a_zret rfl rfl (Or.inr rfl)) (bz1 ?_)
      omega
    · refine a_iload_0 rfl rfl ?_
      refine a_iconst (v := (nI 5)) rfl rfl rfl ?_
      refine a_cmpN_eq rfl rfl rfl (by omega) (by omega) (fun c_14 => ?_) (fun c_14 => ?_)
      · refine a_iconst (v := (nI 1)) rfl rfl rfl ?_
        refine a_goto rfl rfl ?_
        refine av_to (a_zret rfl rfl (Or.inr rfl)) (bz1 ?_)
        omega
      · refine a_iload_0 rfl rfl ?_
        refine a_ifN_ne rfl rfl rfl (by omega) (fun c_18 => ?_) (fun c_18 => ?_)
        · refine a_iconst (v := (nI 0)) rfl rfl rfl ?_
          refine av_to (a_zret rfl rfl (Or.inl rfl)) (bz0 ?_)
          omega
        · refine a_iconst (v := (nI 1)) rfl rfl rfl ?_
          refine a_goto rfl rfl ?_
          refine av_to (a_zret rfl rfl (Or.inr rfl)) (bz1 ?_)
          omega
theorem e_compares {σ : mvSt} (x : Nat) (hx : x < 2 ^ 31) : avE 0 76 [.int (nI x)] σ (some (.int (bI (32 ≤ x ∧ x ≤ 35 ∨ x = 43 ∨ x = 44))), σ) := by
  show avA _ 76 0 [.int (nI (x))] [] _ _
  refine a_iload_0 rfl rfl ?_
  refine a_bipush (v := (nI 32)) rfl rfl rfl ?_
  refine a_cmpN_lt rfl rfl rfl (by omega) (by omega) (fun c_3 => ?_) (fun c_3 => ?_)
  · refine a_iload_0 rfl rfl ?_
    refine a_bipush (v := (nI 43)) rfl rfl rfl ?_
    refine a_cmpN_eq rfl rfl rfl (by omega) (by omega) (fun c_15 => ?_) (fun c_15 => ?_)
    · refine a_iconst (v := (nI 1)) rfl rfl rfl ?_
      refine a_goto rfl rfl ?_
      refine av_to (a_zret rfl rfl (Or.inr rfl)) (bz1 ?_)
      omega
    · refine a_iload_0 rfl rfl ?_
      refine a_bipush (v := (nI 44)) rfl rfl rfl ?_
      refine a_cmpN_ne rfl rfl rfl (by omega) (by omega) (fun c_21 => ?_) (fun c_21 => ?_)
      · refine a_iconst (v := (nI 0)) rfl rfl rfl ?_
        refine av_to (a_zret rfl rfl (Or.inl rfl)) (bz0 ?_)
        omega
      · refine a_iconst (v := (nI 1)) rfl rfl rfl ?_
        refine a_goto rfl rfl ?_
        refine av_to (a_zret rfl rfl (Or.inr rfl)) (bz1 ?_)
        omega
  · refine a_iload_0 rfl rfl ?_
    refine a_bipush (v := (nI 35)) rfl rfl rfl ?_
    refine a_cmpN_le rfl rfl rfl (by omega) (by omega) (fun c_9 => ?_) (fun c_9 => ?_)
    · refine a_iconst (v := (nI 1)) rfl rfl rfl ?_
      refine a_goto rfl rfl ?_
      refine av_to (a_zret rfl rfl (Or.inr rfl)) (bz1 ?_)
      omega
    · refine a_iload_0 rfl rfl ?_
      refine a_bipush (v := (nI 43)) rfl rfl rfl ?_
      refine a_cmpN_eq rfl rfl rfl (by omega) (by omega) (fun c_15 => ?_) (fun c_15 => ?_)
      · refine a_iconst (v := (nI 1)) rfl rfl rfl ?_
        refine a_goto rfl rfl ?_
        refine av_to (a_zret rfl rfl (Or.inr rfl)) (bz1 ?_)
        omega
      · refine a_iload_0 rfl rfl ?_
        refine a_bipush (v := (nI 44)) rfl rfl rfl ?_
        refine a_cmpN_ne rfl rfl rfl (by omega) (by omega) (fun c_21 => ?_) (fun c_21 => ?_)
        · refine a_iconst (v := (nI 0)) rfl rfl rfl ?_
          refine av_to (a_zret rfl rfl (Or.inl rfl)) (bz0 ?_)
          omega
        · refine a_iconst (v := (nI 1)) rfl rfl rfl ?_
          refine a_goto rfl rfl ?_
          refine av_to (a_zret rfl rfl (Or.inr rfl)) (bz1 ?_)
          omega
theorem e_isBlank {σ : mvSt} (x : Nat) (hx : x < 2 ^ 31) : avE 0 41 [.int (nI x)] σ (some (.int (bI (x = 32 ∨ x = 10))), σ) := by
  show avA _ 41 0 [.int (nI (x))] [] _ _
  refine a_iload_0 rfl rfl ?_
  refine a_bipush (v := (nI 32)) rfl rfl rfl ?_
  refine a_cmpN_eq rfl rfl rfl (by omega) (by omega) (fun c_3 => ?_) (fun c_3 => ?_)
  · refine a_iconst (v := (nI 1)) rfl rfl rfl ?_
    refine a_goto rfl rfl ?_
    refine av_to (a_zret rfl rfl (Or.inr rfl)) (bz1 ?_)
    omega
  · refine a_iload_0 rfl rfl ?_
    refine a_bipush (v := (nI 10)) rfl rfl rfl ?_
    refine a_cmpN_ne rfl rfl rfl (by omega) (by omega) (fun c_9 => ?_) (fun c_9 => ?_)
    · refine a_iconst (v := (nI 0)) rfl rfl rfl ?_
      refine av_to (a_zret rfl rfl (Or.inl rfl)) (bz0 ?_)
      omega
    · refine a_iconst (v := (nI 1)) rfl rfl rfl ?_
      refine a_goto rfl rfl ?_
      refine av_to (a_zret rfl rfl (Or.inr rfl)) (bz1 ?_)
      omega
theorem e_isLetter {σ : mvSt} (x : Nat) (hx : x < 2 ^ 31) : avE 0 42 [.int (nI x)] σ (some (.int (bI (97 ≤ x ∧ x ≤ 122 ∨ 65 ≤ x ∧ x ≤ 90))), σ) := by
  show avA _ 42 0 [.int (nI (x))] [] _ _
  refine a_iload_0 rfl rfl ?_
  refine a_bipush (v := (nI 97)) rfl rfl rfl ?_
  refine a_cmpN_lt rfl rfl rfl (by omega) (by omega) (fun c_3 => ?_) (fun c_3 => ?_)
  · refine a_iload_0 rfl rfl ?_
    refine a_bipush (v := (nI 65)) rfl rfl rfl ?_
    refine a_cmpN_lt rfl rfl rfl (by omega) (by omega) (fun c_15 => ?_) (fun c_15 => ?_)
    · refine a_iconst (v := (nI 0)) rfl rfl rfl ?_
      refine av_to (a_zret rfl rfl (Or.inl rfl)) (bz0 ?_)
      omega
    · refine a_iload_0 rfl rfl ?_
      refine a_bipush (v := (nI 90)) rfl rfl rfl ?_
      refine a_cmpN_gt rfl rfl rfl (by omega) (by omega) (fun c_21 => ?_) (fun c_21 => ?_)
      · refine a_iconst (v := (nI 0)) rfl rfl rfl ?_
        refine av_to (a_zret rfl rfl (Or.inl rfl)) (bz0 ?_)
        omega
      · refine a_iconst (v := (nI 1)) rfl rfl rfl ?_
        refine a_goto rfl rfl ?_
        refine av_to (a_zret rfl rfl (Or.inr rfl)) (bz1 ?_)
        omega
  · refine a_iload_0 rfl rfl ?_
    refine a_bipush (v := (nI 122)) rfl rfl rfl ?_
    refine a_cmpN_le rfl rfl rfl (by omega) (by omega) (fun c_9 => ?_) (fun c_9 => ?_)
    · refine a_iconst (v := (nI 1)) rfl rfl rfl ?_
      refine a_goto rfl rfl ?_
      refine av_to (a_zret rfl rfl (Or.inr rfl)) (bz1 ?_)
      omega
    · refine a_iload_0 rfl rfl ?_
      refine a_bipush (v := (nI 65)) rfl rfl rfl ?_
      refine a_cmpN_lt rfl rfl rfl (by omega) (by omega) (fun c_15 => ?_) (fun c_15 => ?_)
      · refine a_iconst (v := (nI 0)) rfl rfl rfl ?_
        refine av_to (a_zret rfl rfl (Or.inl rfl)) (bz0 ?_)
        omega
      · refine a_iload_0 rfl rfl ?_
        refine a_bipush (v := (nI 90)) rfl rfl rfl ?_
        refine a_cmpN_gt rfl rfl rfl (by omega) (by omega) (fun c_21 => ?_) (fun c_21 => ?_)
        · refine a_iconst (v := (nI 0)) rfl rfl rfl ?_
          refine av_to (a_zret rfl rfl (Or.inl rfl)) (bz0 ?_)
          omega
        · refine a_iconst (v := (nI 1)) rfl rfl rfl ?_
          refine a_goto rfl rfl ?_
          refine av_to (a_zret rfl rfl (Or.inr rfl)) (bz1 ?_)
          omega
theorem e_isDigit {σ : mvSt} (x : Nat) (hx : x < 2 ^ 31) : avE 0 46 [.int (nI x)] σ (some (.int (bI (48 ≤ x ∧ x ≤ 57))), σ) := by
  show avA _ 46 0 [.int (nI (x))] [] _ _
  refine a_iload_0 rfl rfl ?_
  refine a_bipush (v := (nI 48)) rfl rfl rfl ?_
  refine a_cmpN_lt rfl rfl rfl (by omega) (by omega) (fun c_3 => ?_) (fun c_3 => ?_)
  · refine a_iconst (v := (nI 0)) rfl rfl rfl ?_
    refine av_to (a_zret rfl rfl (Or.inl rfl)) (bz0 ?_)
    omega
  · refine a_iload_0 rfl rfl ?_
    refine a_bipush (v := (nI 57)) rfl rfl rfl ?_
    refine a_cmpN_gt rfl rfl rfl (by omega) (by omega) (fun c_9 => ?_) (fun c_9 => ?_)
    · refine a_iconst (v := (nI 0)) rfl rfl rfl ?_
      refine av_to (a_zret rfl rfl (Or.inl rfl)) (bz0 ?_)
      omega
    · refine a_iconst (v := (nI 1)) rfl rfl rfl ?_
      refine a_goto rfl rfl ?_
      refine av_to (a_zret rfl rfl (Or.inr rfl)) (bz1 ?_)
      omega
theorem r_isLetter {σ : mvSt} (x : Int32) : avE 0 201 [.int x] σ (some (.int (bI (97 ≤ x.toInt ∧ x.toInt ≤ 122 ∨ 65 ≤ x.toInt ∧ x.toInt ≤ 90))), σ) := by
  show avA _ 201 0 [.int (x)] [] _ _
  refine a_iload_0 rfl rfl ?_
  refine a_bipush (v := (nI 97)) rfl rfl rfl ?_
  refine a_cmpI_lt rfl rfl rfl rfl (nI_toInt (by omega)) (fun c_3 => ?_) (fun c_3 => ?_)
  · refine a_iload_0 rfl rfl ?_
    refine a_bipush (v := (nI 65)) rfl rfl rfl ?_
    refine a_cmpI_lt rfl rfl rfl rfl (nI_toInt (by omega)) (fun c_15 => ?_) (fun c_15 => ?_)
    · refine a_iconst (v := (nI 0)) rfl rfl rfl ?_
      refine av_to (a_zret rfl rfl (Or.inl rfl)) (bz0 ?_)
      omega
    · refine a_iload_0 rfl rfl ?_
      refine a_bipush (v := (nI 90)) rfl rfl rfl ?_
      refine a_cmpI_gt rfl rfl rfl rfl (nI_toInt (by omega)) (fun c_21 => ?_) (fun c_21 => ?_)
      · refine a_iconst (v := (nI 0)) rfl rfl rfl ?_
        refine av_to (a_zret rfl rfl (Or.inl rfl)) (bz0 ?_)
        omega
      · refine a_iconst (v := (nI 1)) rfl rfl rfl ?_
        refine a_goto rfl rfl ?_
        refine av_to (a_zret rfl rfl (Or.inr rfl)) (bz1 ?_)
        omega
  · refine a_iload_0 rfl rfl ?_
    refine a_bipush (v := (nI 122)) rfl rfl rfl ?_
    refine a_cmpI_le rfl rfl rfl rfl (nI_toInt (by omega)) (fun c_9 => ?_) (fun c_9 => ?_)
    · refine a_iconst (v := (nI 1)) rfl rfl rfl ?_
      refine a_goto rfl rfl ?_
      refine av_to (a_zret rfl rfl (Or.inr rfl)) (bz1 ?_)
      omega
    · refine a_iload_0 rfl rfl ?_
      refine a_bipush (v := (nI 65)) rfl rfl rfl ?_
      refine a_cmpI_lt rfl rfl rfl rfl (nI_toInt (by omega)) (fun c_15 => ?_) (fun c_15 => ?_)
      · refine a_iconst (v := (nI 0)) rfl rfl rfl ?_
        refine av_to (a_zret rfl rfl (Or.inl rfl)) (bz0 ?_)
        omega
      · refine a_iload_0 rfl rfl ?_
        refine a_bipush (v := (nI 90)) rfl rfl rfl ?_
        refine a_cmpI_gt rfl rfl rfl rfl (nI_toInt (by omega)) (fun c_21 => ?_) (fun c_21 => ?_)
        · refine a_iconst (v := (nI 0)) rfl rfl rfl ?_
          refine av_to (a_zret rfl rfl (Or.inl rfl)) (bz0 ?_)
          omega
        · refine a_iconst (v := (nI 1)) rfl rfl rfl ?_
          refine a_goto rfl rfl ?_
          refine av_to (a_zret rfl rfl (Or.inr rfl)) (bz1 ?_)
          omega
theorem r_isFigure {σ : mvSt} (x : Int32) : avE 0 200 [.int x] σ (some (.int (bI (48 ≤ x.toInt ∧ x.toInt ≤ 57))), σ) := by
  show avA _ 200 0 [.int (x)] [] _ _
  refine a_iload_0 rfl rfl ?_
  refine a_bipush (v := (nI 48)) rfl rfl rfl ?_
  refine a_cmpI_lt rfl rfl rfl rfl (nI_toInt (by omega)) (fun c_3 => ?_) (fun c_3 => ?_)
  · refine a_iconst (v := (nI 0)) rfl rfl rfl ?_
    refine av_to (a_zret rfl rfl (Or.inl rfl)) (bz0 ?_)
    omega
  · refine a_iload_0 rfl rfl ?_
    refine a_bipush (v := (nI 57)) rfl rfl rfl ?_
    refine a_cmpI_gt rfl rfl rfl rfl (nI_toInt (by omega)) (fun c_9 => ?_) (fun c_9 => ?_)
    · refine a_iconst (v := (nI 0)) rfl rfl rfl ?_
      refine av_to (a_zret rfl rfl (Or.inl rfl)) (bz0 ?_)
      omega
    · refine a_iconst (v := (nI 1)) rfl rfl rfl ?_
      refine a_goto rfl rfl ?_
      refine av_to (a_zret rfl rfl (Or.inr rfl)) (bz1 ?_)
      omega
/-! kicks packed into one int -/
theorem nI_or (a b : Nat) : nI a ||| nI b = nI (a ||| b) := by
  apply tb_ext
  intro j hj
  rw [tb_or, tb_nI, tb_nI, tb_nI, Nat.testBit_or]
  simp [hj]
theorem nI_and (a b : Nat) : nI a &&& nI b = nI (a &&& b) := by
  apply tb_ext
  intro j hj
  rw [tb_and, tb_nI, tb_nI, tb_nI, Nat.testBit_and]
  simp [hj]
theorem or_low {a b k : Nat} (h : b < 2 ^ k) : (a * 2 ^ k) ||| b = a * 2 ^ k + b := by
  rw [Nat.mul_comm, ← Nat.two_pow_add_eq_or_of_lt h]
theorem pk_or3 (x y z : Nat) (hx : x < 16384) (hy : y < 8) (hz : z < 16) : nI x <<< (nI 7 &&& 31) ||| nI y <<< (nI 4 &&& 31) ||| nI z = nI ((x * 8 + y) * 16 + z) := by
  rw [pk_shlN _ 7 (by decide) (by omega), pk_shlN _ 4 (by decide) (by omega), nI_or, nI_or]
  congr 1
  rw [or_low (by omega), show x * 2 ^ 7 + y * 2 ^ 4 = (x * 8 + y) * 2 ^ 4 by omega, or_low (by omega)]
theorem e_packKick {σ : mvSt} (x y z : Nat) (hx : x < 16384) (hy : y < 8) (hz : z < 16) : avE 0 112 [.int (nI x), .int (nI y), .int (nI z)] σ (some (.int (nI ((x * 8 + y) * 16 + z))), σ) := by
  show avA _ 112 0 [.int (nI (x)), .int (nI (y)), .int (nI (z))] [] _ _
  refine a_iload_0 rfl rfl ?_
  refine a_bipush (v := (nI 7)) rfl rfl rfl ?_
  refine a_ishl rfl rfl ?_
  refine a_iload_1 rfl rfl ?_
  refine a_iconst (v := (nI 4)) rfl rfl rfl ?_
  refine a_ishl rfl rfl ?_
  refine a_ior rfl rfl ?_
  refine a_iload_2 rfl rfl ?_
  refine a_ior rfl rfl ?_
  refine av_to (a_iret rfl rfl) ?_
  rw [pk_or3 x y z hx hy hz]
theorem e_hourOfKick {σ : mvSt} (x : Nat) (hx : x < 2 ^ 31) : avE 0 126 [.int (nI x)] σ (some (.int (nI (x / 128))), σ) := by
  show avA _ 126 0 [.int (nI (x))] [] _ _
  refine a_iload_0 rfl rfl ?_
  refine a_bipush (v := (nI 7)) rfl rfl rfl ?_
  refine a_ishr rfl rfl ?_
  refine a_as (y := nI (x / 128)) (pk_shrN hx _ 7 (by decide)) ?_
  exact a_iret rfl rfl
theorem e_beastOfKick {σ : mvSt} (x : Nat) (hx : x < 2 ^ 31) : avE 0 127 [.int (nI x)] σ (some (.int (nI (x / 16 % 8))), σ) := by
  show avA _ 127 0 [.int (nI (x))] [] _ _
  refine a_iload_0 rfl rfl ?_
  refine a_iconst (v := (nI 4)) rfl rfl rfl ?_
  refine a_ishr rfl rfl ?_
  refine a_as (y := nI (x / 16)) (pk_shrN hx _ 4 (by decide)) ?_
  refine a_bipush (v := (nI 7)) rfl rfl rfl ?_
  refine a_iand rfl rfl ?_
  refine a_as (y := nI (x / 16 % 8)) (pk_andN (by omega) 3 (by decide)) ?_
  exact a_iret rfl rfl
theorem e_lightOfKick {σ : mvSt} (x : Nat) (hx : x < 2 ^ 31) : avE 0 128 [.int (nI x)] σ (some (.int (nI (x % 16))), σ) := by
  show avA _ 128 0 [.int (nI (x))] [] _ _
  refine a_iload_0 rfl rfl ?_
  refine a_bipush (v := (nI 15)) rfl rfl rfl ?_
  refine a_iand rfl rfl ?_
  refine a_as (y := nI (x % 16)) (pk_andN (by omega) 4 (by decide)) ?_
  exact a_iret rfl rfl
