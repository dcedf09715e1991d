/-! THE START: the state behind the constructors -/
def s0A (L : Nat) (xs : Nat → Int32) : mvSt := mkS (msSt L xs) 11 11
def y0_0 (L : Nat) (xs : Nat → Int32) : mvSt := mkS (s0A L xs) 1 10
def y0_1 (L : Nat) (xs : Nat → Int32) : mvSt := mkS (y0_0 L xs) 5 3
def y0_2 (L : Nat) (xs : Nat → Int32) : mvSt := iPth 9 10 (y0_1 L xs)
def y0_3 (L : Nat) (xs : Nat → Int32) : mvSt := pR (y0_2 L xs) 8 0 (some 9)
def y0_4 (L : Nat) (xs : Nat → Int32) : mvSt := mkS (y0_3 L xs) 0 13
def y0_5 (L : Nat) (xs : Nat → Int32) : mvSt := iHol11 (y0_4 L xs)
def y0_6 (L : Nat) (xs : Nat → Int32) : mvSt := pR (y0_5 L xs) 8 1 (some 11)
def y0_7 (L : Nat) (xs : Nat → Int32) : mvSt := mkS (y0_6 L xs) 7 2
def y0_8 (L : Nat) (xs : Nat → Int32) : mvSt := iRck 33 34 (y0_7 L xs)
def y0_9 (L : Nat) (xs : Nat → Int32) : mvSt := pR (y0_8 L xs) 8 2 (some 33)
def y0_10 (L : Nat) (xs : Nat → Int32) : mvSt := mkS (y0_9 L xs) 7 2
def y0_11 (L : Nat) (xs : Nat → Int32) : mvSt := iRck 36 37 (y0_10 L xs)
def y0_12 (L : Nat) (xs : Nat → Int32) : mvSt := pR (y0_11 L xs) 8 3 (some 36)
def y0_13 (L : Nat) (xs : Nat → Int32) : mvSt := pR (y0_12 L xs) 8 4 none
def y0_14 (L : Nat) (xs : Nat → Int32) : mvSt := pI (y0_13 L xs) 8 5 (-1)
def y0_15 (L : Nat) (xs : Nat → Int32) : mvSt := pI (y0_14 L xs) 8 6 (nI 0)
def y0_16 (L : Nat) (xs : Nat → Int32) : mvSt := pI (y0_15 L xs) 8 7 (nI 0)
def y0_17 (L : Nat) (xs : Nat → Int32) : mvSt := mkS (y0_16 L xs) 20 900
def y0_18 (L : Nat) (xs : Nat → Int32) : mvSt := pR (y0_17 L xs) 8 8 (some 39)
def y0_19 (L : Nat) (xs : Nat → Int32) : mvSt := pI (y0_18 L xs) 8 9 (nI 1)
def y0_20 (L : Nat) (xs : Nat → Int32) : mvSt := pR (y0_19 L xs) 7 0 (some 8)
def y0_21 (L : Nat) (xs : Nat → Int32) : mvSt := pR (y0_20 L xs) 7 1 (some 11)
def y0_22 (L : Nat) (xs : Nat → Int32) : mvSt := pR (y0_21 L xs) 7 2 (some 9)
def y0_23 (L : Nat) (xs : Nat → Int32) : mvSt := mkS (y0_22 L xs) 0 13
def y0_24 (L : Nat) (xs : Nat → Int32) : mvSt := iHol40 (y0_23 L xs)
def y0_25 (L : Nat) (xs : Nat → Int32) : mvSt := pR (y0_24 L xs) 7 3 (some 40)
def y0_26 (L : Nat) (xs : Nat → Int32) : mvSt := mkS (y0_25 L xs) 3 11
def y0_27 (L : Nat) (xs : Nat → Int32) : mvSt := iMom 62 63 (y0_26 L xs)
def y0_28 (L : Nat) (xs : Nat → Int32) : mvSt := pR (y0_27 L xs) 7 4 (some 62)
def y0_29 (L : Nat) (xs : Nat → Int32) : mvSt := mkS (y0_28 L xs) 23 4
def y0_30 (L : Nat) (xs : Nat → Int32) : mvSt := pR (y0_29 L xs) 7 5 (some 67)
def y0_31 (L : Nat) (xs : Nat → Int32) : mvSt := mkS (y0_30 L xs) 9 7
def y0_32 (L : Nat) (xs : Nat → Int32) : mvSt := iTap (y0_31 L xs)
def y0_33 (L : Nat) (xs : Nat → Int32) : mvSt := pR (y0_32 L xs) 7 6 (some 68)
def y0_34 (L : Nat) (xs : Nat → Int32) : mvSt := mkS (y0_33 L xs) 6 5
def y0_35 (L : Nat) (xs : Nat → Int32) : mvSt := iRdr 72 73 (y0_34 L xs)
def y0_36 (L : Nat) (xs : Nat → Int32) : mvSt := pR (y0_35 L xs) 7 7 (some 72)
def y0_37 (L : Nat) (xs : Nat → Int32) : mvSt := mkS (y0_36 L xs) 8 6
def y0_38 (L : Nat) (xs : Nat → Int32) : mvSt := iSea 73 74 (y0_37 L xs)
def y0_39 (L : Nat) (xs : Nat → Int32) : mvSt := pR (y0_38 L xs) 7 8 (some 73)
def y0_40 (L : Nat) (xs : Nat → Int32) : mvSt := mkS (y0_39 L xs) 2 3
def y0_41 (L : Nat) (xs : Nat → Int32) : mvSt := iLea 78 79 (y0_40 L xs)
def y0_42 (L : Nat) (xs : Nat → Int32) : mvSt := pR (y0_41 L xs) 7 9 (some 78)
def y0_43 (L : Nat) (xs : Nat → Int32) : mvSt := mkS (y0_42 L xs) 20 30
def y0_44 (L : Nat) (xs : Nat → Int32) : mvSt := pR (y0_43 L xs) 7 10 (some 80)
def y0_45 (L : Nat) (xs : Nat → Int32) : mvSt := mkS (y0_44 L xs) 12 33
def y0_46 (L : Nat) (xs : Nat → Int32) : mvSt := iRef (y0_45 L xs)
section ST
variable {L : Nat} {xs : Nat → Int32}
theorem g0_m1 : Gr (s0A L xs) 8 7 11 := by
  refine ⟨rfl, rfl, by omega, fun i hi => ?_, by omega⟩
  obtain ⟨j, rfl⟩ := Nat.exists_eq_add_of_le' hi
  exact ⟨rfl, rfl⟩
theorem t0A : TB (s0A L xs) := ⟨rfl, rfl, rfl, rfl, rfl⟩
theorem g0_0 : Gr (y0_0 L xs) 9 7 11 := gr_mk g0_m1
theorem g0_1 : Gr (y0_1 L xs) 10 7 11 := gr_mk g0_0
theorem g0_2 : Gr (y0_2 L xs) 11 7 11 := g_iPth g0_1 (by decide)
theorem g0_3 : Gr (y0_3 L xs) 11 7 11 := gr_pR g0_2 (by decide)
theorem g0_4 : Gr (y0_4 L xs) 12 7 11 := gr_mk g0_3
theorem g0_5 : Gr (y0_5 L xs) 33 7 11 := g_iHol11 g0_4 (by decide)
theorem g0_6 : Gr (y0_6 L xs) 33 7 11 := gr_pR g0_5 (by decide)
theorem g0_7 : Gr (y0_7 L xs) 34 7 11 := gr_mk g0_6
theorem g0_8 : Gr (y0_8 L xs) 36 7 11 := g_iRck g0_7 (by decide)
theorem g0_9 : Gr (y0_9 L xs) 36 7 11 := gr_pR g0_8 (by decide)
theorem g0_10 : Gr (y0_10 L xs) 37 7 11 := gr_mk g0_9
theorem g0_11 : Gr (y0_11 L xs) 39 7 11 := g_iRck g0_10 (by decide)
theorem g0_12 : Gr (y0_12 L xs) 39 7 11 := gr_pR g0_11 (by decide)
theorem g0_13 : Gr (y0_13 L xs) 39 7 11 := gr_pR g0_12 (by decide)
theorem g0_14 : Gr (y0_14 L xs) 39 7 11 := gr_pI g0_13
theorem g0_15 : Gr (y0_15 L xs) 39 7 11 := gr_pI g0_14
theorem g0_16 : Gr (y0_16 L xs) 39 7 11 := gr_pI g0_15
theorem g0_17 : Gr (y0_17 L xs) 40 7 11 := gr_mk g0_16
theorem g0_18 : Gr (y0_18 L xs) 40 7 11 := gr_pR g0_17 (by decide)
theorem g0_19 : Gr (y0_19 L xs) 40 7 11 := gr_pI g0_18
theorem g0_20 : Gr (y0_20 L xs) 40 7 11 := gr_pR g0_19 (by decide)
theorem g0_21 : Gr (y0_21 L xs) 40 7 11 := gr_pR g0_20 (by decide)
theorem g0_22 : Gr (y0_22 L xs) 40 7 11 := gr_pR g0_21 (by decide)
theorem g0_23 : Gr (y0_23 L xs) 41 7 11 := gr_mk g0_22
theorem g0_24 : Gr (y0_24 L xs) 62 7 11 := g_iHol40 g0_23 (by decide)
theorem g0_25 : Gr (y0_25 L xs) 62 7 11 := gr_pR g0_24 (by decide)
theorem g0_26 : Gr (y0_26 L xs) 63 7 11 := gr_mk g0_25
theorem g0_27 : Gr (y0_27 L xs) 67 7 11 := g_iMom g0_26 (by decide)
theorem g0_28 : Gr (y0_28 L xs) 67 7 11 := gr_pR g0_27 (by decide)
theorem g0_29 : Gr (y0_29 L xs) 68 7 11 := gr_mk g0_28
theorem g0_30 : Gr (y0_30 L xs) 68 7 11 := gr_pR g0_29 (by decide)
theorem g0_31 : Gr (y0_31 L xs) 69 7 11 := gr_mk g0_30
theorem g0_32 : Gr (y0_32 L xs) 72 7 11 := g_iTap g0_31 (by decide)
theorem g0_33 : Gr (y0_33 L xs) 72 7 11 := gr_pR g0_32 (by decide)
theorem g0_34 : Gr (y0_34 L xs) 73 7 11 := gr_mk g0_33
theorem g0_35 : Gr (y0_35 L xs) 73 7 11 := g_iRdr g0_34 (by decide)
theorem g0_36 : Gr (y0_36 L xs) 73 7 11 := gr_pR g0_35 (by decide)
theorem g0_37 : Gr (y0_37 L xs) 74 7 11 := gr_mk g0_36
theorem g0_38 : Gr (y0_38 L xs) 78 7 11 := g_iSea g0_37 (by decide)
theorem g0_39 : Gr (y0_39 L xs) 78 7 11 := gr_pR g0_38 (by decide)
theorem g0_40 : Gr (y0_40 L xs) 79 7 11 := gr_mk g0_39
theorem g0_41 : Gr (y0_41 L xs) 80 7 11 := g_iLea g0_40 (by decide)
theorem g0_42 : Gr (y0_42 L xs) 80 7 11 := gr_pR g0_41 (by decide)
theorem g0_43 : Gr (y0_43 L xs) 81 7 11 := gr_mk g0_42
theorem g0_44 : Gr (y0_44 L xs) 81 7 11 := gr_pR g0_43 (by decide)
theorem g0_45 : Gr (y0_45 L xs) 82 7 11 := gr_mk g0_44
theorem g0_46 : Gr (y0_46 L xs) 98 7 11 := g_iRef g0_45 (by decide)
theorem k0_46 {i : Nat} (h : i < 98) : SameAt i (y0_46 L xs) (y0_46 L xs) := sa_refl
theorem k0_45 {i : Nat} (h : i < 81) : SameAt i (y0_45 L xs) (y0_46 L xs) := sa_tr (σ' := (y0_46 L xs)) (f_iRef g0_45 (by omega) (by omega)) (k0_46 (by omega))
theorem k0_44 {i : Nat} (h : i < 81) : SameAt i (y0_44 L xs) (y0_46 L xs) := sa_tr (σ' := (y0_45 L xs)) (sa_mk g0_44 (by omega)) (k0_45 (by omega))
theorem k0_43 {i : Nat} (h : i < 81) (h7 : i ≠ 7) : SameAt i (y0_43 L xs) (y0_46 L xs) := sa_tr (σ' := (y0_44 L xs)) (sa_pR (by omega)) (k0_44 (by omega))
theorem k0_42 {i : Nat} (h : i < 80) (h7 : i ≠ 7) : SameAt i (y0_42 L xs) (y0_46 L xs) := sa_tr (σ' := (y0_43 L xs)) (sa_mk g0_42 (by omega)) (k0_43 (by omega) (by omega))
theorem k0_41 {i : Nat} (h : i < 80) (h7 : i ≠ 7) : SameAt i (y0_41 L xs) (y0_46 L xs) := sa_tr (σ' := (y0_42 L xs)) (sa_pR (by omega)) (k0_42 (by omega) (by omega))
theorem k0_40 {i : Nat} (h : i < 78) (h7 : i ≠ 7) : SameAt i (y0_40 L xs) (y0_46 L xs) := sa_tr (σ' := (y0_41 L xs)) (f_iLea (by omega) g0_40 (by omega) (by omega)) (k0_41 (by omega) (by omega))
theorem k0_39 {i : Nat} (h : i < 78) (h7 : i ≠ 7) : SameAt i (y0_39 L xs) (y0_46 L xs) := sa_tr (σ' := (y0_40 L xs)) (sa_mk g0_39 (by omega)) (k0_40 (by omega) (by omega))
theorem k0_38 {i : Nat} (h : i < 78) (h7 : i ≠ 7) : SameAt i (y0_38 L xs) (y0_46 L xs) := sa_tr (σ' := (y0_39 L xs)) (sa_pR (by omega)) (k0_39 (by omega) (by omega))
theorem k0_37 {i : Nat} (h : i < 73) (h7 : i ≠ 7) : SameAt i (y0_37 L xs) (y0_46 L xs) := sa_tr (σ' := (y0_38 L xs)) (f_iSea (by omega) g0_37 (by omega) (by omega)) (k0_38 (by omega) (by omega))
theorem k0_36 {i : Nat} (h : i < 73) (h7 : i ≠ 7) : SameAt i (y0_36 L xs) (y0_46 L xs) := sa_tr (σ' := (y0_37 L xs)) (sa_mk g0_36 (by omega)) (k0_37 (by omega) (by omega))
theorem k0_35 {i : Nat} (h : i < 73) (h7 : i ≠ 7) : SameAt i (y0_35 L xs) (y0_46 L xs) := sa_tr (σ' := (y0_36 L xs)) (sa_pR (by omega)) (k0_36 (by omega) (by omega))
theorem k0_34 {i : Nat} (h : i < 72) (h7 : i ≠ 7) : SameAt i (y0_34 L xs) (y0_46 L xs) := sa_tr (σ' := (y0_35 L xs)) (f_iRdr (by omega) g0_34 (by omega) (by omega)) (k0_35 (by omega) (by omega))
theorem k0_33 {i : Nat} (h : i < 72) (h7 : i ≠ 7) : SameAt i (y0_33 L xs) (y0_46 L xs) := sa_tr (σ' := (y0_34 L xs)) (sa_mk g0_33 (by omega)) (k0_34 (by omega) (by omega))
theorem k0_32 {i : Nat} (h : i < 72) (h7 : i ≠ 7) : SameAt i (y0_32 L xs) (y0_46 L xs) := sa_tr (σ' := (y0_33 L xs)) (sa_pR (by omega)) (k0_33 (by omega) (by omega))
theorem k0_31 {i : Nat} (h : i < 68) (h7 : i ≠ 7) : SameAt i (y0_31 L xs) (y0_46 L xs) := sa_tr (σ' := (y0_32 L xs)) (f_iTap g0_31 (by omega) (by omega)) (k0_32 (by omega) (by omega))
theorem k0_30 {i : Nat} (h : i < 68) (h7 : i ≠ 7) : SameAt i (y0_30 L xs) (y0_46 L xs) := sa_tr (σ' := (y0_31 L xs)) (sa_mk g0_30 (by omega)) (k0_31 (by omega) (by omega))
theorem k0_29 {i : Nat} (h : i < 68) (h7 : i ≠ 7) : SameAt i (y0_29 L xs) (y0_46 L xs) := sa_tr (σ' := (y0_30 L xs)) (sa_pR (by omega)) (k0_30 (by omega) (by omega))
theorem k0_28 {i : Nat} (h : i < 67) (h7 : i ≠ 7) : SameAt i (y0_28 L xs) (y0_46 L xs) := sa_tr (σ' := (y0_29 L xs)) (sa_mk g0_28 (by omega)) (k0_29 (by omega) (by omega))
theorem k0_27 {i : Nat} (h : i < 67) (h7 : i ≠ 7) : SameAt i (y0_27 L xs) (y0_46 L xs) := sa_tr (σ' := (y0_28 L xs)) (sa_pR (by omega)) (k0_28 (by omega) (by omega))
theorem k0_26 {i : Nat} (h : i < 62) (h7 : i ≠ 7) : SameAt i (y0_26 L xs) (y0_46 L xs) := sa_tr (σ' := (y0_27 L xs)) (f_iMom (by omega) g0_26 (by omega) (by omega)) (k0_27 (by omega) (by omega))
theorem k0_25 {i : Nat} (h : i < 62) (h7 : i ≠ 7) : SameAt i (y0_25 L xs) (y0_46 L xs) := sa_tr (σ' := (y0_26 L xs)) (sa_mk g0_25 (by omega)) (k0_26 (by omega) (by omega))
theorem k0_24 {i : Nat} (h : i < 62) (h7 : i ≠ 7) : SameAt i (y0_24 L xs) (y0_46 L xs) := sa_tr (σ' := (y0_25 L xs)) (sa_pR (by omega)) (k0_25 (by omega) (by omega))
theorem k0_23 {i : Nat} (h : i < 40) (h7 : i ≠ 7) : SameAt i (y0_23 L xs) (y0_46 L xs) := sa_tr (σ' := (y0_24 L xs)) (f_iHol40 g0_23 (by omega) (by omega)) (k0_24 (by omega) (by omega))
theorem k0_22 {i : Nat} (h : i < 40) (h7 : i ≠ 7) : SameAt i (y0_22 L xs) (y0_46 L xs) := sa_tr (σ' := (y0_23 L xs)) (sa_mk g0_22 (by omega)) (k0_23 (by omega) (by omega))
theorem k0_21 {i : Nat} (h : i < 40) (h7 : i ≠ 7) : SameAt i (y0_21 L xs) (y0_46 L xs) := sa_tr (σ' := (y0_22 L xs)) (sa_pR (by omega)) (k0_22 (by omega) (by omega))
theorem k0_20 {i : Nat} (h : i < 40) (h7 : i ≠ 7) : SameAt i (y0_20 L xs) (y0_46 L xs) := sa_tr (σ' := (y0_21 L xs)) (sa_pR (by omega)) (k0_21 (by omega) (by omega))
theorem k0_19 {i : Nat} (h : i < 40) (h7 : i ≠ 7) : SameAt i (y0_19 L xs) (y0_46 L xs) := sa_tr (σ' := (y0_20 L xs)) (sa_pR (by omega)) (k0_20 (by omega) (by omega))
theorem k0_18 {i : Nat} (h : i < 40) (h7 : i ≠ 7) (h8 : i ≠ 8) : SameAt i (y0_18 L xs) (y0_46 L xs) := sa_tr (σ' := (y0_19 L xs)) (sa_pI (by omega)) (k0_19 (by omega) (by omega))
theorem k0_17 {i : Nat} (h : i < 40) (h7 : i ≠ 7) (h8 : i ≠ 8) : SameAt i (y0_17 L xs) (y0_46 L xs) := sa_tr (σ' := (y0_18 L xs)) (sa_pR (by omega)) (k0_18 (by omega) (by omega) (by omega))
theorem k0_16 {i : Nat} (h : i < 39) (h7 : i ≠ 7) (h8 : i ≠ 8) : SameAt i (y0_16 L xs) (y0_46 L xs) := sa_tr (σ' := (y0_17 L xs)) (sa_mk g0_16 (by omega)) (k0_17 (by omega) (by omega) (by omega))
theorem k0_15 {i : Nat} (h : i < 39) (h7 : i ≠ 7) (h8 : i ≠ 8) : SameAt i (y0_15 L xs) (y0_46 L xs) := sa_tr (σ' := (y0_16 L xs)) (sa_pI (by omega)) (k0_16 (by omega) (by omega) (by omega))
theorem k0_14 {i : Nat} (h : i < 39) (h7 : i ≠ 7) (h8 : i ≠ 8) : SameAt i (y0_14 L xs) (y0_46 L xs) := sa_tr (σ' := (y0_15 L xs)) (sa_pI (by omega)) (k0_15 (by omega) (by omega) (by omega))
theorem k0_13 {i : Nat} (h : i < 39) (h7 : i ≠ 7) (h8 : i ≠ 8) : SameAt i (y0_13 L xs) (y0_46 L xs) := sa_tr (σ' := (y0_14 L xs)) (sa_pI (by omega)) (k0_14 (by omega) (by omega) (by omega))
theorem k0_12 {i : Nat} (h : i < 39) (h7 : i ≠ 7) (h8 : i ≠ 8) : SameAt i (y0_12 L xs) (y0_46 L xs) := sa_tr (σ' := (y0_13 L xs)) (sa_pR (by omega)) (k0_13 (by omega) (by omega) (by omega))
theorem k0_11 {i : Nat} (h : i < 39) (h7 : i ≠ 7) (h8 : i ≠ 8) : SameAt i (y0_11 L xs) (y0_46 L xs) := sa_tr (σ' := (y0_12 L xs)) (sa_pR (by omega)) (k0_12 (by omega) (by omega) (by omega))
theorem k0_10 {i : Nat} (h : i < 36) (h7 : i ≠ 7) (h8 : i ≠ 8) : SameAt i (y0_10 L xs) (y0_46 L xs) := sa_tr (σ' := (y0_11 L xs)) (f_iRck (by omega) g0_10 (by omega) (by omega)) (k0_11 (by omega) (by omega) (by omega))
theorem k0_9 {i : Nat} (h : i < 36) (h7 : i ≠ 7) (h8 : i ≠ 8) : SameAt i (y0_9 L xs) (y0_46 L xs) := sa_tr (σ' := (y0_10 L xs)) (sa_mk g0_9 (by omega)) (k0_10 (by omega) (by omega) (by omega))
theorem k0_8 {i : Nat} (h : i < 36) (h7 : i ≠ 7) (h8 : i ≠ 8) : SameAt i (y0_8 L xs) (y0_46 L xs) := sa_tr (σ' := (y0_9 L xs)) (sa_pR (by omega)) (k0_9 (by omega) (by omega) (by omega))
theorem k0_7 {i : Nat} (h : i < 33) (h7 : i ≠ 7) (h8 : i ≠ 8) : SameAt i (y0_7 L xs) (y0_46 L xs) := sa_tr (σ' := (y0_8 L xs)) (f_iRck (by omega) g0_7 (by omega) (by omega)) (k0_8 (by omega) (by omega) (by omega))
theorem k0_6 {i : Nat} (h : i < 33) (h7 : i ≠ 7) (h8 : i ≠ 8) : SameAt i (y0_6 L xs) (y0_46 L xs) := sa_tr (σ' := (y0_7 L xs)) (sa_mk g0_6 (by omega)) (k0_7 (by omega) (by omega) (by omega))
theorem k0_5 {i : Nat} (h : i < 33) (h7 : i ≠ 7) (h8 : i ≠ 8) : SameAt i (y0_5 L xs) (y0_46 L xs) := sa_tr (σ' := (y0_6 L xs)) (sa_pR (by omega)) (k0_6 (by omega) (by omega) (by omega))
theorem k0_4 {i : Nat} (h : i < 11) (h7 : i ≠ 7) (h8 : i ≠ 8) : SameAt i (y0_4 L xs) (y0_46 L xs) := sa_tr (σ' := (y0_5 L xs)) (f_iHol11 g0_4 (by omega) (by omega)) (k0_5 (by omega) (by omega) (by omega))
theorem k0_3 {i : Nat} (h : i < 11) (h7 : i ≠ 7) (h8 : i ≠ 8) : SameAt i (y0_3 L xs) (y0_46 L xs) := sa_tr (σ' := (y0_4 L xs)) (sa_mk g0_3 (by omega)) (k0_4 (by omega) (by omega) (by omega))
theorem k0_2 {i : Nat} (h : i < 11) (h7 : i ≠ 7) (h8 : i ≠ 8) : SameAt i (y0_2 L xs) (y0_46 L xs) := sa_tr (σ' := (y0_3 L xs)) (sa_pR (by omega)) (k0_3 (by omega) (by omega) (by omega))
theorem k0_1 {i : Nat} (h : i < 9) (h7 : i ≠ 7) (h8 : i ≠ 8) : SameAt i (y0_1 L xs) (y0_46 L xs) := sa_tr (σ' := (y0_2 L xs)) (f_iPth (by omega) g0_1 (by omega) (by omega)) (k0_2 (by omega) (by omega) (by omega))
theorem k0_0 {i : Nat} (h : i < 9) (h7 : i ≠ 7) (h8 : i ≠ 8) : SameAt i (y0_0 L xs) (y0_46 L xs) := sa_tr (σ' := (y0_1 L xs)) (sa_mk g0_0 (by omega)) (k0_1 (by omega) (by omega) (by omega))
theorem k0_m1 {i : Nat} (h : i < 8) (h7 : i ≠ 7) (h8 : i ≠ 8) : SameAt i (s0A L xs) (y0_46 L xs) := sa_tr (σ' := (y0_0 L xs)) (sa_mk g0_m1 (by omega)) (k0_0 (by omega) (by omega) (by omega))
theorem q0_2 {σ : mvSt} (h : σ.1.1 = 9) : Vl (iPth 9 10 (mkS σ 5 3)) 9 (5, 3) (va_up (fun _ => (none : Option Nat)) 2 (some 10)) (va_up (va_up (fun _ => (0 : Int32)) 0 (nI 1073741823)) 1 (nI 0)) ∧ Vl (iPth 9 10 (mkS σ 5 3)) 10 (20, 900) (fun _ => (none : Option Nat)) (fun _ => (0 : Int32)) := by
  obtain ⟨⟨m, s, sh⟩, h_, gl, gr⟩ := σ
  obtain rfl : m = 9 := h
  exact ⟨⟨rfl, rfl, rfl⟩, ⟨rfl, rfl, rfl⟩⟩
theorem v0_9 : Vl ((y0_46 L xs)) 9 (5, 3) (va_up (fun _ => (none : Option Nat)) 2 (some 10)) (va_up (va_up (fun _ => (0 : Int32)) 0 (nI 1073741823)) 1 (nI 0)) := vl_sa ((q0_2 g0_0.1).1) (k0_2 (by decide) (by decide) (by decide))
theorem v0_10 : Vl ((y0_46 L xs)) 10 (20, 900) (fun _ => (none : Option Nat)) (fun _ => (0 : Int32)) := vl_sa ((q0_2 g0_0.1).2) (k0_2 (by decide) (by decide) (by decide))
theorem q0_5 {σ : mvSt} (h : σ.1.1 = 11) : Vl (iHol11 (mkS σ 0 13)) 11 (0, 13) (va_up (va_up (va_up (va_up (va_up (va_up (va_up (va_up (va_up (fun _ => (none : Option Nat)) 0 (some 12)) 1 (some 13)) 2 (some 14)) 3 (some 19)) 6 (some 20)) 7 (some 23)) 8 (some 26)) 9 (some 29)) 10 (some 32)) (va_up (va_up (va_up (va_up (fun _ => (0 : Int32)) 4 (nI 0)) 5 (nI 0)) 11 (-1)) 12 (nI 0)) ∧ Vl (iHol11 (mkS σ 0 13)) 12 (20, 30) (fun _ => (none : Option Nat)) (fun _ => (0 : Int32)) ∧ Vl (iHol11 (mkS σ 0 13)) 13 (20, 30) (fun _ => (none : Option Nat)) (fun j => if 0 ≤ j ∧ j < 30 then nI 5 else (0 : Int32)) ∧ Vl (iHol11 (mkS σ 0 13)) 14 (3, 11) (va_up (va_up (va_up (va_up (fun _ => (none : Option Nat)) 5 (some 15)) 6 (some 16)) 7 (some 17)) 8 (some 18)) (va_up (va_up (va_up (va_up (va_up (va_up (va_up (fun _ => (0 : Int32)) 0 (-1)) 1 (nI 0)) 2 (nI 0)) 3 (nI 197)) 4 (nI 0)) 9 (nI 0)) 10 (nI 0)) ∧ Vl (iHol11 (mkS σ 0 13)) 15 (20, 5) (fun _ => (none : Option Nat)) (fun _ => (0 : Int32)) ∧ Vl (iHol11 (mkS σ 0 13)) 16 (20, 5) (fun _ => (none : Option Nat)) (fun _ => (0 : Int32)) ∧ Vl (iHol11 (mkS σ 0 13)) 17 (20, 5) (fun _ => (none : Option Nat)) (fun _ => (0 : Int32)) ∧ Vl (iHol11 (mkS σ 0 13)) 18 (20, 30) (fun _ => (none : Option Nat)) (fun _ => (0 : Int32)) ∧ Vl (iHol11 (mkS σ 0 13)) 19 (20, 1560) (fun _ => (none : Option Nat)) (fun _ => (0 : Int32)) ∧ Vl (iHol11 (mkS σ 0 13)) 20 (4, 3) (va_up (va_up (fun _ => (none : Option Nat)) 0 (some 21)) 1 (some 22)) (va_up (fun _ => (0 : Int32)) 2 (nI 0)) ∧ Vl (iHol11 (mkS σ 0 13)) 21 (20, 6) (fun _ => (none : Option Nat)) (fun _ => (0 : Int32)) ∧ Vl (iHol11 (mkS σ 0 13)) 22 (20, 6) (fun _ => (none : Option Nat)) (fun _ => (0 : Int32)) ∧ Vl (iHol11 (mkS σ 0 13)) 23 (4, 3) (va_up (va_up (fun _ => (none : Option Nat)) 0 (some 24)) 1 (some 25)) (va_up (fun _ => (0 : Int32)) 2 (nI 0)) ∧ Vl (iHol11 (mkS σ 0 13)) 24 (20, 6) (fun _ => (none : Option Nat)) (fun _ => (0 : Int32)) ∧ Vl (iHol11 (mkS σ 0 13)) 25 (20, 6) (fun _ => (none : Option Nat)) (fun _ => (0 : Int32)) ∧ Vl (iHol11 (mkS σ 0 13)) 26 (4, 3) (va_up (va_up (fun _ => (none : Option Nat)) 0 (some 27)) 1 (some 28)) (va_up (fun _ => (0 : Int32)) 2 (nI 0)) ∧ Vl (iHol11 (mkS σ 0 13)) 27 (20, 8) (fun _ => (none : Option Nat)) (fun _ => (0 : Int32)) ∧ Vl (iHol11 (mkS σ 0 13)) 28 (20, 8) (fun _ => (none : Option Nat)) (fun _ => (0 : Int32)) ∧ Vl (iHol11 (mkS σ 0 13)) 29 (4, 3) (va_up (va_up (fun _ => (none : Option Nat)) 0 (some 30)) 1 (some 31)) (va_up (fun _ => (0 : Int32)) 2 (nI 0)) ∧ Vl (iHol11 (mkS σ 0 13)) 30 (20, 8) (fun _ => (none : Option Nat)) (fun _ => (0 : Int32)) ∧ Vl (iHol11 (mkS σ 0 13)) 31 (20, 8) (fun _ => (none : Option Nat)) (fun _ => (0 : Int32)) ∧ Vl (iHol11 (mkS σ 0 13)) 32 (20, 12) (fun _ => (none : Option Nat)) (fun _ => (0 : Int32)) := by
  obtain ⟨⟨m, s, sh⟩, h_, gl, gr⟩ := σ
  obtain rfl : m = 11 := h
  exact ⟨⟨rfl, rfl, rfl⟩, ⟨rfl, rfl, rfl⟩, ⟨rfl, rfl, rfl⟩, ⟨rfl, rfl, rfl⟩, ⟨rfl, rfl, rfl⟩, ⟨rfl, rfl, rfl⟩, ⟨rfl, rfl, rfl⟩, ⟨rfl, rfl, rfl⟩, ⟨rfl, rfl, rfl⟩, ⟨rfl, rfl, rfl⟩, ⟨rfl, rfl, rfl⟩, ⟨rfl, rfl, rfl⟩, ⟨rfl, rfl, rfl⟩, ⟨rfl, rfl, rfl⟩, ⟨rfl, rfl, rfl⟩, ⟨rfl, rfl, rfl⟩, ⟨rfl, rfl, rfl⟩, ⟨rfl, rfl, rfl⟩, ⟨rfl, rfl, rfl⟩, ⟨rfl, rfl, rfl⟩, ⟨rfl, rfl, rfl⟩, ⟨rfl, rfl, rfl⟩⟩
theorem v0_11 : Vl ((y0_46 L xs)) 11 (0, 13) (va_up (va_up (va_up (va_up (va_up (va_up (va_up (va_up (va_up (fun _ => (none : Option Nat)) 0 (some 12)) 1 (some 13)) 2 (some 14)) 3 (some 19)) 6 (some 20)) 7 (some 23)) 8 (some 26)) 9 (some 29)) 10 (some 32)) (va_up (va_up (va_up (va_up (fun _ => (0 : Int32)) 4 (nI 0)) 5 (nI 0)) 11 (-1)) 12 (nI 0)) := vl_sa ((q0_5 g0_3.1).1) (k0_5 (by decide) (by decide) (by decide))
theorem v0_12 : Vl ((y0_46 L xs)) 12 (20, 30) (fun _ => (none : Option Nat)) (fun _ => (0 : Int32)) := vl_sa ((q0_5 g0_3.1).2.1) (k0_5 (by decide) (by decide) (by decide))
theorem v0_13 : Vl ((y0_46 L xs)) 13 (20, 30) (fun _ => (none : Option Nat)) (fun j => if 0 ≤ j ∧ j < 30 then nI 5 else (0 : Int32)) := vl_sa ((q0_5 g0_3.1).2.2.1) (k0_5 (by decide) (by decide) (by decide))
theorem v0_14 : Vl ((y0_46 L xs)) 14 (3, 11) (va_up (va_up (va_up (va_up (fun _ => (none : Option Nat)) 5 (some 15)) 6 (some 16)) 7 (some 17)) 8 (some 18)) (va_up (va_up (va_up (va_up (va_up (va_up (va_up (fun _ => (0 : Int32)) 0 (-1)) 1 (nI 0)) 2 (nI 0)) 3 (nI 197)) 4 (nI 0)) 9 (nI 0)) 10 (nI 0)) := vl_sa ((q0_5 g0_3.1).2.2.2.1) (k0_5 (by decide) (by decide) (by decide))
theorem v0_15 : Vl ((y0_46 L xs)) 15 (20, 5) (fun _ => (none : Option Nat)) (fun _ => (0 : Int32)) := vl_sa ((q0_5 g0_3.1).2.2.2.2.1) (k0_5 (by decide) (by decide) (by decide))
theorem v0_16 : Vl ((y0_46 L xs)) 16 (20, 5) (fun _ => (none : Option Nat)) (fun _ => (0 : Int32)) := vl_sa ((q0_5 g0_3.1).2.2.2.2.2.1) (k0_5 (by decide) (by decide) (by decide))
theorem v0_17 : Vl ((y0_46 L xs)) 17 (20, 5) (fun _ => (none : Option Nat)) (fun _ => (0 : Int32)) := vl_sa ((q0_5 g0_3.1).2.2.2.2.2.2.1) (k0_5 (by decide) (by decide) (by decide))
theorem v0_18 : Vl ((y0_46 L xs)) 18 (20, 30) (fun _ => (none : Option Nat)) (fun _ => (0 : Int32)) := vl_sa ((q0_5 g0_3.1).2.2.2.2.2.2.2.1) (k0_5 (by decide) (by decide) (by decide))
theorem v0_19 : Vl ((y0_46 L xs)) 19 (20, 1560) (fun _ => (none : Option Nat)) (fun _ => (0 : Int32)) := vl_sa ((q0_5 g0_3.1).2.2.2.2.2.2.2.2.1) (k0_5 (by decide) (by decide) (by decide))
theorem v0_20 : Vl ((y0_46 L xs)) 20 (4, 3) (va_up (va_up (fun _ => (none : Option Nat)) 0 (some 21)) 1 (some 22)) (va_up (fun _ => (0 : Int32)) 2 (nI 0)) := vl_sa ((q0_5 g0_3.1).2.2.2.2.2.2.2.2.2.1) (k0_5 (by decide) (by decide) (by decide))
theorem v0_21 : Vl ((y0_46 L xs)) 21 (20, 6) (fun _ => (none : Option Nat)) (fun _ => (0 : Int32)) := vl_sa ((q0_5 g0_3.1).2.2.2.2.2.2.2.2.2.2.1) (k0_5 (by decide) (by decide) (by decide))
theorem v0_22 : Vl ((y0_46 L xs)) 22 (20, 6) (fun _ => (none : Option Nat)) (fun _ => (0 : Int32)) := vl_sa ((q0_5 g0_3.1).2.2.2.2.2.2.2.2.2.2.2.1) (k0_5 (by decide) (by decide) (by decide))
theorem v0_23 : Vl ((y0_46 L xs)) 23 (4, 3) (va_up (va_up (fun _ => (none : Option Nat)) 0 (some 24)) 1 (some 25)) (va_up (fun _ => (0 : Int32)) 2 (nI 0)) := vl_sa ((q0_5 g0_3.1).2.2.2.2.2.2.2.2.2.2.2.2.1) (k0_5 (by decide) (by decide) (by decide))
theorem v0_24 : Vl ((y0_46 L xs)) 24 (20, 6) (fun _ => (none : Option Nat)) (fun _ => (0 : Int32)) := vl_sa ((q0_5 g0_3.1).2.2.2.2.2.2.2.2.2.2.2.2.2.1) (k0_5 (by decide) (by decide) (by decide))
theorem v0_25 : Vl ((y0_46 L xs)) 25 (20, 6) (fun _ => (none : Option Nat)) (fun _ => (0 : Int32)) := vl_sa ((q0_5 g0_3.1).2.2.2.2.2.2.2.2.2.2.2.2.2.2.1) (k0_5 (by decide) (by decide) (by decide))
theorem v0_26 : Vl ((y0_46 L xs)) 26 (4, 3) (va_up (va_up (fun _ => (none : Option Nat)) 0 (some 27)) 1 (some 28)) (va_up (fun _ => (0 : Int32)) 2 (nI 0)) := vl_sa ((q0_5 g0_3.1).2.2.2.2.2.2.2.2.2.2.2.2.2.2.2.1) (k0_5 (by decide) (by decide) (by decide))
theorem v0_27 : Vl ((y0_46 L xs)) 27 (20, 8) (fun _ => (none : Option Nat)) (fun _ => (0 : Int32)) := vl_sa ((q0_5 g0_3.1).2.2.2.2.2.2.2.2.2.2.2.2.2.2.2.2.1) (k0_5 (by decide) (by decide) (by decide))
theorem v0_28 : Vl ((y0_46 L xs)) 28 (20, 8) (fun _ => (none : Option Nat)) (fun _ => (0 : Int32)) := vl_sa ((q0_5 g0_3.1).2.2.2.2.2.2.2.2.2.2.2.2.2.2.2.2.2.1) (k0_5 (by decide) (by decide) (by decide))
theorem v0_29 : Vl ((y0_46 L xs)) 29 (4, 3) (va_up (va_up (fun _ => (none : Option Nat)) 0 (some 30)) 1 (some 31)) (va_up (fun _ => (0 : Int32)) 2 (nI 0)) := vl_sa ((q0_5 g0_3.1).2.2.2.2.2.2.2.2.2.2.2.2.2.2.2.2.2.2.1) (k0_5 (by decide) (by decide) (by decide))
theorem v0_30 : Vl ((y0_46 L xs)) 30 (20, 8) (fun _ => (none : Option Nat)) (fun _ => (0 : Int32)) := vl_sa ((q0_5 g0_3.1).2.2.2.2.2.2.2.2.2.2.2.2.2.2.2.2.2.2.2.1) (k0_5 (by decide) (by decide) (by decide))
theorem v0_31 : Vl ((y0_46 L xs)) 31 (20, 8) (fun _ => (none : Option Nat)) (fun _ => (0 : Int32)) := vl_sa ((q0_5 g0_3.1).2.2.2.2.2.2.2.2.2.2.2.2.2.2.2.2.2.2.2.2.1) (k0_5 (by decide) (by decide) (by decide))
theorem v0_32 : Vl ((y0_46 L xs)) 32 (20, 12) (fun _ => (none : Option Nat)) (fun _ => (0 : Int32)) := vl_sa ((q0_5 g0_3.1).2.2.2.2.2.2.2.2.2.2.2.2.2.2.2.2.2.2.2.2.2) (k0_5 (by decide) (by decide) (by decide))
theorem q0_8 {σ : mvSt} (h : σ.1.1 = 33) : Vl (iRck 33 34 (mkS σ 7 2)) 33 (7, 2) (va_up (va_up (fun _ => (none : Option Nat)) 0 (some 34)) 1 (some 35)) (fun _ => (0 : Int32)) ∧ Vl (iRck 33 34 (mkS σ 7 2)) 34 (20, 64) (fun _ => (none : Option Nat)) (fun _ => (0 : Int32)) ∧ Vl (iRck 33 34 (mkS σ 7 2)) 35 (20, 11) (fun _ => (none : Option Nat)) (fun _ => (0 : Int32)) := by
  obtain ⟨⟨m, s, sh⟩, h_, gl, gr⟩ := σ
  obtain rfl : m = 33 := h
  exact ⟨⟨rfl, rfl, rfl⟩, ⟨rfl, rfl, rfl⟩, ⟨rfl, rfl, rfl⟩⟩
theorem v0_33 : Vl ((y0_46 L xs)) 33 (7, 2) (va_up (va_up (fun _ => (none : Option Nat)) 0 (some 34)) 1 (some 35)) (fun _ => (0 : Int32)) := vl_sa ((q0_8 g0_6.1).1) (k0_8 (by decide) (by decide) (by decide))
theorem v0_34 : Vl ((y0_46 L xs)) 34 (20, 64) (fun _ => (none : Option Nat)) (fun _ => (0 : Int32)) := vl_sa ((q0_8 g0_6.1).2.1) (k0_8 (by decide) (by decide) (by decide))
theorem v0_35 : Vl ((y0_46 L xs)) 35 (20, 11) (fun _ => (none : Option Nat)) (fun _ => (0 : Int32)) := vl_sa ((q0_8 g0_6.1).2.2) (k0_8 (by decide) (by decide) (by decide))
theorem q0_11 {σ : mvSt} (h : σ.1.1 = 36) : Vl (iRck 36 37 (mkS σ 7 2)) 36 (7, 2) (va_up (va_up (fun _ => (none : Option Nat)) 0 (some 37)) 1 (some 38)) (fun _ => (0 : Int32)) ∧ Vl (iRck 36 37 (mkS σ 7 2)) 37 (20, 64) (fun _ => (none : Option Nat)) (fun _ => (0 : Int32)) ∧ Vl (iRck 36 37 (mkS σ 7 2)) 38 (20, 11) (fun _ => (none : Option Nat)) (fun _ => (0 : Int32)) := by
  obtain ⟨⟨m, s, sh⟩, h_, gl, gr⟩ := σ
  obtain rfl : m = 36 := h
  exact ⟨⟨rfl, rfl, rfl⟩, ⟨rfl, rfl, rfl⟩, ⟨rfl, rfl, rfl⟩⟩
theorem v0_36 : Vl ((y0_46 L xs)) 36 (7, 2) (va_up (va_up (fun _ => (none : Option Nat)) 0 (some 37)) 1 (some 38)) (fun _ => (0 : Int32)) := vl_sa ((q0_11 g0_9.1).1) (k0_11 (by decide) (by decide) (by decide))
theorem v0_37 : Vl ((y0_46 L xs)) 37 (20, 64) (fun _ => (none : Option Nat)) (fun _ => (0 : Int32)) := vl_sa ((q0_11 g0_9.1).2.1) (k0_11 (by decide) (by decide) (by decide))
theorem v0_38 : Vl ((y0_46 L xs)) 38 (20, 11) (fun _ => (none : Option Nat)) (fun _ => (0 : Int32)) := vl_sa ((q0_11 g0_9.1).2.2) (k0_11 (by decide) (by decide) (by decide))
theorem q0_17 {σ : mvSt} (h : σ.1.1 = 39) : Vl (mkS σ 20 900) 39 (20, 900) (fun _ => (none : Option Nat)) (fun _ => (0 : Int32)) := by
  obtain ⟨⟨m, s, sh⟩, h_, gl, gr⟩ := σ
  obtain rfl : m = 39 := h
  exact ⟨rfl, rfl, rfl⟩
theorem v0_39 : Vl ((y0_46 L xs)) 39 (20, 900) (fun _ => (none : Option Nat)) (fun _ => (0 : Int32)) := vl_sa (q0_17 g0_16.1) (k0_17 (by decide) (by decide) (by decide))
theorem q0_24 {σ : mvSt} (h : σ.1.1 = 40) : Vl (iHol40 (mkS σ 0 13)) 40 (0, 13) (va_up (va_up (va_up (va_up (va_up (va_up (va_up (va_up (va_up (fun _ => (none : Option Nat)) 0 (some 41)) 1 (some 42)) 2 (some 43)) 3 (some 48)) 6 (some 49)) 7 (some 52)) 8 (some 55)) 9 (some 58)) 10 (some 61)) (va_up (va_up (va_up (va_up (fun _ => (0 : Int32)) 4 (nI 0)) 5 (nI 0)) 11 (-1)) 12 (nI 0)) ∧ Vl (iHol40 (mkS σ 0 13)) 41 (20, 30) (fun _ => (none : Option Nat)) (fun _ => (0 : Int32)) ∧ Vl (iHol40 (mkS σ 0 13)) 42 (20, 30) (fun _ => (none : Option Nat)) (fun j => if 0 ≤ j ∧ j < 30 then nI 5 else (0 : Int32)) ∧ Vl (iHol40 (mkS σ 0 13)) 43 (3, 11) (va_up (va_up (va_up (va_up (fun _ => (none : Option Nat)) 5 (some 44)) 6 (some 45)) 7 (some 46)) 8 (some 47)) (va_up (va_up (va_up (va_up (va_up (va_up (va_up (fun _ => (0 : Int32)) 0 (-1)) 1 (nI 0)) 2 (nI 0)) 3 (nI 197)) 4 (nI 0)) 9 (nI 0)) 10 (nI 0)) ∧ Vl (iHol40 (mkS σ 0 13)) 44 (20, 5) (fun _ => (none : Option Nat)) (fun _ => (0 : Int32)) ∧ Vl (iHol40 (mkS σ 0 13)) 45 (20, 5) (fun _ => (none : Option Nat)) (fun _ => (0 : Int32)) ∧ Vl (iHol40 (mkS σ 0 13)) 46 (20, 5) (fun _ => (none : Option Nat)) (fun _ => (0 : Int32)) ∧ Vl (iHol40 (mkS σ 0 13)) 47 (20, 30) (fun _ => (none : Option Nat)) (fun _ => (0 : Int32)) ∧ Vl (iHol40 (mkS σ 0 13)) 48 (20, 1560) (fun _ => (none : Option Nat)) (fun _ => (0 : Int32)) ∧ Vl (iHol40 (mkS σ 0 13)) 49 (4, 3) (va_up (va_up (fun _ => (none : Option Nat)) 0 (some 50)) 1 (some 51)) (va_up (fun _ => (0 : Int32)) 2 (nI 0)) ∧ Vl (iHol40 (mkS σ 0 13)) 50 (20, 6) (fun _ => (none : Option Nat)) (fun _ => (0 : Int32)) ∧ Vl (iHol40 (mkS σ 0 13)) 51 (20, 6) (fun _ => (none : Option Nat)) (fun _ => (0 : Int32)) ∧ Vl (iHol40 (mkS σ 0 13)) 52 (4, 3) (va_up (va_up (fun _ => (none : Option Nat)) 0 (some 53)) 1 (some 54)) (va_up (fun _ => (0 : Int32)) 2 (nI 0)) ∧ Vl (iHol40 (mkS σ 0 13)) 53 (20, 6) (fun _ => (none : Option Nat)) (fun _ => (0 : Int32)) ∧ Vl (iHol40 (mkS σ 0 13)) 54 (20, 6) (fun _ => (none : Option Nat)) (fun _ => (0 : Int32)) ∧ Vl (iHol40 (mkS σ 0 13)) 55 (4, 3) (va_up (va_up (fun _ => (none : Option Nat)) 0 (some 56)) 1 (some 57)) (va_up (fun _ => (0 : Int32)) 2 (nI 0)) ∧ Vl (iHol40 (mkS σ 0 13)) 56 (20, 8) (fun _ => (none : Option Nat)) (fun _ => (0 : Int32)) ∧ Vl (iHol40 (mkS σ 0 13)) 57 (20, 8) (fun _ => (none : Option Nat)) (fun _ => (0 : Int32)) ∧ Vl (iHol40 (mkS σ 0 13)) 58 (4, 3) (va_up (va_up (fun _ => (none : Option Nat)) 0 (some 59)) 1 (some 60)) (va_up (fun _ => (0 : Int32)) 2 (nI 0)) ∧ Vl (iHol40 (mkS σ 0 13)) 59 (20, 8) (fun _ => (none : Option Nat)) (fun _ => (0 : Int32)) ∧ Vl (iHol40 (mkS σ 0 13)) 60 (20, 8) (fun _ => (none : Option Nat)) (fun _ => (0 : Int32)) ∧ Vl (iHol40 (mkS σ 0 13)) 61 (20, 12) (fun _ => (none : Option Nat)) (fun _ => (0 : Int32)) := by
  obtain ⟨⟨m, s, sh⟩, h_, gl, gr⟩ := σ
  obtain rfl : m = 40 := h
  exact ⟨⟨rfl, rfl, rfl⟩, ⟨rfl, rfl, rfl⟩, ⟨rfl, rfl, rfl⟩, ⟨rfl, rfl, rfl⟩, ⟨rfl, rfl, rfl⟩, ⟨rfl, rfl, rfl⟩, ⟨rfl, rfl, rfl⟩, ⟨rfl, rfl, rfl⟩, ⟨rfl, rfl, rfl⟩, ⟨rfl, rfl, rfl⟩, ⟨rfl, rfl, rfl⟩, ⟨rfl, rfl, rfl⟩, ⟨rfl, rfl, rfl⟩, ⟨rfl, rfl, rfl⟩, ⟨rfl, rfl, rfl⟩, ⟨rfl, rfl, rfl⟩, ⟨rfl, rfl, rfl⟩, ⟨rfl, rfl, rfl⟩, ⟨rfl, rfl, rfl⟩, ⟨rfl, rfl, rfl⟩, ⟨rfl, rfl, rfl⟩, ⟨rfl, rfl, rfl⟩⟩
theorem v0_40 : Vl ((y0_46 L xs)) 40 (0, 13) (va_up (va_up (va_up (va_up (va_up (va_up (va_up (va_up (va_up (fun _ => (none : Option Nat)) 0 (some 41)) 1 (some 42)) 2 (some 43)) 3 (some 48)) 6 (some 49)) 7 (some 52)) 8 (some 55)) 9 (some 58)) 10 (some 61)) (va_up (va_up (va_up (va_up (fun _ => (0 : Int32)) 4 (nI 0)) 5 (nI 0)) 11 (-1)) 12 (nI 0)) := vl_sa ((q0_24 g0_22.1).1) (k0_24 (by decide) (by decide))
theorem v0_41 : Vl ((y0_46 L xs)) 41 (20, 30) (fun _ => (none : Option Nat)) (fun _ => (0 : Int32)) := vl_sa ((q0_24 g0_22.1).2.1) (k0_24 (by decide) (by decide))
theorem v0_42 : Vl ((y0_46 L xs)) 42 (20, 30) (fun _ => (none : Option Nat)) (fun j => if 0 ≤ j ∧ j < 30 then nI 5 else (0 : Int32)) := vl_sa ((q0_24 g0_22.1).2.2.1) (k0_24 (by decide) (by decide))
theorem v0_43 : Vl ((y0_46 L xs)) 43 (3, 11) (va_up (va_up (va_up (va_up (fun _ => (none : Option Nat)) 5 (some 44)) 6 (some 45)) 7 (some 46)) 8 (some 47)) (va_up (va_up (va_up (va_up (va_up (va_up (va_up (fun _ => (0 : Int32)) 0 (-1)) 1 (nI 0)) 2 (nI 0)) 3 (nI 197)) 4 (nI 0)) 9 (nI 0)) 10 (nI 0)) := vl_sa ((q0_24 g0_22.1).2.2.2.1) (k0_24 (by decide) (by decide))
theorem v0_44 : Vl ((y0_46 L xs)) 44 (20, 5) (fun _ => (none : Option Nat)) (fun _ => (0 : Int32)) := vl_sa ((q0_24 g0_22.1).2.2.2.2.1) (k0_24 (by decide) (by decide))
theorem v0_45 : Vl ((y0_46 L xs)) 45 (20, 5) (fun _ => (none : Option Nat)) (fun _ => (0 : Int32)) := vl_sa ((q0_24 g0_22.1).2.2.2.2.2.1) (k0_24 (by decide) (by decide))
theorem v0_46 : Vl ((y0_46 L xs)) 46 (20, 5) (fun _ => (none : Option Nat)) (fun _ => (0 : Int32)) := vl_sa ((q0_24 g0_22.1).2.2.2.2.2.2.1) (k0_24 (by decide) (by decide))
theorem v0_47 : Vl ((y0_46 L xs)) 47 (20, 30) (fun _ => (none : Option Nat)) (fun _ => (0 : Int32)) := vl_sa ((q0_24 g0_22.1).2.2.2.2.2.2.2.1) (k0_24 (by decide) (by decide))
theorem v0_48 : Vl ((y0_46 L xs)) 48 (20, 1560) (fun _ => (none : Option Nat)) (fun _ => (0 : Int32)) := vl_sa ((q0_24 g0_22.1).2.2.2.2.2.2.2.2.1) (k0_24 (by decide) (by decide))
theorem v0_49 : Vl ((y0_46 L xs)) 49 (4, 3) (va_up (va_up (fun _ => (none : Option Nat)) 0 (some 50)) 1 (some 51)) (va_up (fun _ => (0 : Int32)) 2 (nI 0)) := vl_sa ((q0_24 g0_22.1).2.2.2.2.2.2.2.2.2.1) (k0_24 (by decide) (by decide))
theorem v0_50 : Vl ((y0_46 L xs)) 50 (20, 6) (fun _ => (none : Option Nat)) (fun _ => (0 : Int32)) := vl_sa ((q0_24 g0_22.1).2.2.2.2.2.2.2.2.2.2.1) (k0_24 (by decide) (by decide))
theorem v0_51 : Vl ((y0_46 L xs)) 51 (20, 6) (fun _ => (none : Option Nat)) (fun _ => (0 : Int32)) := vl_sa ((q0_24 g0_22.1).2.2.2.2.2.2.2.2.2.2.2.1) (k0_24 (by decide) (by decide))
theorem v0_52 : Vl ((y0_46 L xs)) 52 (4, 3) (va_up (va_up (fun _ => (none : Option Nat)) 0 (some 53)) 1 (some 54)) (va_up (fun _ => (0 : Int32)) 2 (nI 0)) := vl_sa ((q0_24 g0_22.1).2.2.2.2.2.2.2.2.2.2.2.2.1) (k0_24 (by decide) (by decide))
theorem v0_53 : Vl ((y0_46 L xs)) 53 (20, 6) (fun _ => (none : Option Nat)) (fun _ => (0 : Int32)) := vl_sa ((q0_24 g0_22.1).2.2.2.2.2.2.2.2.2.2.2.2.2.1) (k0_24 (by decide) (by decide))
theorem v0_54 : Vl ((y0_46 L xs)) 54 (20, 6) (fun _ => (none : Option Nat)) (fun _ => (0 : Int32)) := vl_sa ((q0_24 g0_22.1).2.2.2.2.2.2.2.2.2.2.2.2.2.2.1) (k0_24 (by decide) (by decide))
theorem v0_55 : Vl ((y0_46 L xs)) 55 (4, 3) (va_up (va_up (fun _ => (none : Option Nat)) 0 (some 56)) 1 (some 57)) (va_up (fun _ => (0 : Int32)) 2 (nI 0)) := vl_sa ((q0_24 g0_22.1).2.2.2.2.2.2.2.2.2.2.2.2.2.2.2.1) (k0_24 (by decide) (by decide))
theorem v0_56 : Vl ((y0_46 L xs)) 56 (20, 8) (fun _ => (none : Option Nat)) (fun _ => (0 : Int32)) := vl_sa ((q0_24 g0_22.1).2.2.2.2.2.2.2.2.2.2.2.2.2.2.2.2.1) (k0_24 (by decide) (by decide))
theorem v0_57 : Vl ((y0_46 L xs)) 57 (20, 8) (fun _ => (none : Option Nat)) (fun _ => (0 : Int32)) := vl_sa ((q0_24 g0_22.1).2.2.2.2.2.2.2.2.2.2.2.2.2.2.2.2.2.1) (k0_24 (by decide) (by decide))
theorem v0_58 : Vl ((y0_46 L xs)) 58 (4, 3) (va_up (va_up (fun _ => (none : Option Nat)) 0 (some 59)) 1 (some 60)) (va_up (fun _ => (0 : Int32)) 2 (nI 0)) := vl_sa ((q0_24 g0_22.1).2.2.2.2.2.2.2.2.2.2.2.2.2.2.2.2.2.2.1) (k0_24 (by decide) (by decide))
theorem v0_59 : Vl ((y0_46 L xs)) 59 (20, 8) (fun _ => (none : Option Nat)) (fun _ => (0 : Int32)) := vl_sa ((q0_24 g0_22.1).2.2.2.2.2.2.2.2.2.2.2.2.2.2.2.2.2.2.2.1) (k0_24 (by decide) (by decide))
theorem v0_60 : Vl ((y0_46 L xs)) 60 (20, 8) (fun _ => (none : Option Nat)) (fun _ => (0 : Int32)) := vl_sa ((q0_24 g0_22.1).2.2.2.2.2.2.2.2.2.2.2.2.2.2.2.2.2.2.2.2.1) (k0_24 (by decide) (by decide))
theorem v0_61 : Vl ((y0_46 L xs)) 61 (20, 12) (fun _ => (none : Option Nat)) (fun _ => (0 : Int32)) := vl_sa ((q0_24 g0_22.1).2.2.2.2.2.2.2.2.2.2.2.2.2.2.2.2.2.2.2.2.2) (k0_24 (by decide) (by decide))
theorem q0_27 {σ : mvSt} (h : σ.1.1 = 62) : Vl (iMom 62 63 (mkS σ 3 11)) 62 (3, 11) (va_up (va_up (va_up (va_up (fun _ => (none : Option Nat)) 5 (some 63)) 6 (some 64)) 7 (some 65)) 8 (some 66)) (va_up (va_up (va_up (va_up (va_up (va_up (va_up (fun _ => (0 : Int32)) 0 (-1)) 1 (nI 0)) 2 (nI 0)) 3 (nI 197)) 4 (nI 0)) 9 (nI 0)) 10 (nI 0)) ∧ Vl (iMom 62 63 (mkS σ 3 11)) 63 (20, 5) (fun _ => (none : Option Nat)) (fun _ => (0 : Int32)) ∧ Vl (iMom 62 63 (mkS σ 3 11)) 64 (20, 5) (fun _ => (none : Option Nat)) (fun _ => (0 : Int32)) ∧ Vl (iMom 62 63 (mkS σ 3 11)) 65 (20, 5) (fun _ => (none : Option Nat)) (fun _ => (0 : Int32)) ∧ Vl (iMom 62 63 (mkS σ 3 11)) 66 (20, 30) (fun _ => (none : Option Nat)) (fun _ => (0 : Int32)) := by
  obtain ⟨⟨m, s, sh⟩, h_, gl, gr⟩ := σ
  obtain rfl : m = 62 := h
  exact ⟨⟨rfl, rfl, rfl⟩, ⟨rfl, rfl, rfl⟩, ⟨rfl, rfl, rfl⟩, ⟨rfl, rfl, rfl⟩, ⟨rfl, rfl, rfl⟩⟩
theorem v0_62 : Vl ((y0_46 L xs)) 62 (3, 11) (va_up (va_up (va_up (va_up (fun _ => (none : Option Nat)) 5 (some 63)) 6 (some 64)) 7 (some 65)) 8 (some 66)) (va_up (va_up (va_up (va_up (va_up (va_up (va_up (fun _ => (0 : Int32)) 0 (-1)) 1 (nI 0)) 2 (nI 0)) 3 (nI 197)) 4 (nI 0)) 9 (nI 0)) 10 (nI 0)) := vl_sa ((q0_27 g0_25.1).1) (k0_27 (by decide) (by decide))
theorem v0_63 : Vl ((y0_46 L xs)) 63 (20, 5) (fun _ => (none : Option Nat)) (fun _ => (0 : Int32)) := vl_sa ((q0_27 g0_25.1).2.1) (k0_27 (by decide) (by decide))
theorem v0_64 : Vl ((y0_46 L xs)) 64 (20, 5) (fun _ => (none : Option Nat)) (fun _ => (0 : Int32)) := vl_sa ((q0_27 g0_25.1).2.2.1) (k0_27 (by decide) (by decide))
theorem v0_65 : Vl ((y0_46 L xs)) 65 (20, 5) (fun _ => (none : Option Nat)) (fun _ => (0 : Int32)) := vl_sa ((q0_27 g0_25.1).2.2.2.1) (k0_27 (by decide) (by decide))
theorem v0_66 : Vl ((y0_46 L xs)) 66 (20, 30) (fun _ => (none : Option Nat)) (fun _ => (0 : Int32)) := vl_sa ((q0_27 g0_25.1).2.2.2.2) (k0_27 (by decide) (by decide))
theorem q0_29 {σ : mvSt} (h : σ.1.1 = 67) : Vl (mkS σ 23 4) 67 (23, 4) (fun _ => (none : Option Nat)) (fun _ => (0 : Int32)) := by
  obtain ⟨⟨m, s, sh⟩, h_, gl, gr⟩ := σ
  obtain rfl : m = 67 := h
  exact ⟨rfl, rfl, rfl⟩
theorem v0_67 : Vl ((y0_46 L xs)) 67 (23, 4) (fun _ => (none : Option Nat)) (fun _ => (0 : Int32)) := vl_sa (q0_29 g0_28.1) (k0_29 (by decide) (by decide))
theorem q0_32 {σ : mvSt} (h : σ.1.1 = 68) : Vl (iTap (mkS σ 9 7)) 68 (9, 7) (va_up (va_up (va_up (fun _ => (none : Option Nat)) 0 (some 69)) 2 (some 70)) 6 (some 71)) (va_up (va_up (va_up (va_up (fun _ => (0 : Int32)) 1 (nI 0)) 3 (nI 0)) 4 (nI 0)) 5 (nI 0)) ∧ Vl (iTap (mkS σ 9 7)) 69 (20, 300) (fun _ => (none : Option Nat)) (fun _ => (0 : Int32)) ∧ Vl (iTap (mkS σ 9 7)) 70 (20, 301) (fun _ => (none : Option Nat)) (fun _ => (0 : Int32)) ∧ Vl (iTap (mkS σ 9 7)) 71 (20, 32) (fun _ => (none : Option Nat)) (wFt (fun _ => (0 : Int32)) 151) := by
  obtain ⟨⟨m, s, sh⟩, h_, gl, gr⟩ := σ
  obtain rfl : m = 68 := h
  exact ⟨⟨rfl, rfl, rfl⟩, ⟨rfl, rfl, rfl⟩, ⟨rfl, rfl, rfl⟩, ⟨rfl, rfl, rfl⟩⟩
theorem v0_68 : Vl ((y0_46 L xs)) 68 (9, 7) (va_up (va_up (va_up (fun _ => (none : Option Nat)) 0 (some 69)) 2 (some 70)) 6 (some 71)) (va_up (va_up (va_up (va_up (fun _ => (0 : Int32)) 1 (nI 0)) 3 (nI 0)) 4 (nI 0)) 5 (nI 0)) := vl_sa ((q0_32 g0_30.1).1) (k0_32 (by decide) (by decide))
theorem v0_69 : Vl ((y0_46 L xs)) 69 (20, 300) (fun _ => (none : Option Nat)) (fun _ => (0 : Int32)) := vl_sa ((q0_32 g0_30.1).2.1) (k0_32 (by decide) (by decide))
theorem v0_70 : Vl ((y0_46 L xs)) 70 (20, 301) (fun _ => (none : Option Nat)) (fun _ => (0 : Int32)) := vl_sa ((q0_32 g0_30.1).2.2.1) (k0_32 (by decide) (by decide))
theorem v0_71 : Vl ((y0_46 L xs)) 71 (20, 32) (fun _ => (none : Option Nat)) (wFt (fun _ => (0 : Int32)) 151) := vl_sa ((q0_32 g0_30.1).2.2.2) (k0_32 (by decide) (by decide))
theorem q0_35 {σ : mvSt} (h : σ.1.1 = 72) : Vl (iRdr 72 73 (mkS σ 6 5)) 72 (6, 5) (va_up (va_up (fun _ => (none : Option Nat)) 0 none) 1 none) (va_up (va_up (va_up (fun _ => (0 : Int32)) 2 (nI 0)) 3 (-1)) 4 (-1)) := by
  obtain ⟨⟨m, s, sh⟩, h_, gl, gr⟩ := σ
  obtain rfl : m = 72 := h
  exact ⟨rfl, rfl, rfl⟩
theorem v0_72 : Vl ((y0_46 L xs)) 72 (6, 5) (va_up (va_up (fun _ => (none : Option Nat)) 0 none) 1 none) (va_up (va_up (va_up (fun _ => (0 : Int32)) 2 (nI 0)) 3 (-1)) 4 (-1)) := vl_sa (q0_35 g0_33.1) (k0_35 (by decide) (by decide))
theorem q0_38 {σ : mvSt} (h : σ.1.1 = 73) : Vl (iSea 73 74 (mkS σ 8 6)) 73 (8, 6) (va_up (va_up (va_up (va_up (fun _ => (none : Option Nat)) 0 (some 74)) 1 (some 75)) 2 (some 76)) 3 (some 77)) (va_up (va_up (fun _ => (0 : Int32)) 4 (nI 0)) 5 (nI 0)) ∧ Vl (iSea 73 74 (mkS σ 8 6)) 74 (20, 64) (fun _ => (none : Option Nat)) (fun _ => (0 : Int32)) ∧ Vl (iSea 73 74 (mkS σ 8 6)) 75 (20, 64) (fun _ => (none : Option Nat)) (fun _ => (0 : Int32)) ∧ Vl (iSea 73 74 (mkS σ 8 6)) 76 (20, 64) (fun _ => (none : Option Nat)) (fun _ => (0 : Int32)) ∧ Vl (iSea 73 74 (mkS σ 8 6)) 77 (20, 64) (fun _ => (none : Option Nat)) (fun _ => (0 : Int32)) := by
  obtain ⟨⟨m, s, sh⟩, h_, gl, gr⟩ := σ
  obtain rfl : m = 73 := h
  exact ⟨⟨rfl, rfl, rfl⟩, ⟨rfl, rfl, rfl⟩, ⟨rfl, rfl, rfl⟩, ⟨rfl, rfl, rfl⟩, ⟨rfl, rfl, rfl⟩⟩
theorem v0_73 : Vl ((y0_46 L xs)) 73 (8, 6) (va_up (va_up (va_up (va_up (fun _ => (none : Option Nat)) 0 (some 74)) 1 (some 75)) 2 (some 76)) 3 (some 77)) (va_up (va_up (fun _ => (0 : Int32)) 4 (nI 0)) 5 (nI 0)) := vl_sa ((q0_38 g0_36.1).1) (k0_38 (by decide) (by decide))
theorem v0_74 : Vl ((y0_46 L xs)) 74 (20, 64) (fun _ => (none : Option Nat)) (fun _ => (0 : Int32)) := vl_sa ((q0_38 g0_36.1).2.1) (k0_38 (by decide) (by decide))
theorem v0_75 : Vl ((y0_46 L xs)) 75 (20, 64) (fun _ => (none : Option Nat)) (fun _ => (0 : Int32)) := vl_sa ((q0_38 g0_36.1).2.2.1) (k0_38 (by decide) (by decide))
theorem v0_76 : Vl ((y0_46 L xs)) 76 (20, 64) (fun _ => (none : Option Nat)) (fun _ => (0 : Int32)) := vl_sa ((q0_38 g0_36.1).2.2.2.1) (k0_38 (by decide) (by decide))
theorem v0_77 : Vl ((y0_46 L xs)) 77 (20, 64) (fun _ => (none : Option Nat)) (fun _ => (0 : Int32)) := vl_sa ((q0_38 g0_36.1).2.2.2.2) (k0_38 (by decide) (by decide))
theorem q0_41 {σ : mvSt} (h : σ.1.1 = 78) : Vl (iLea 78 79 (mkS σ 2 3)) 78 (2, 3) (va_up (fun _ => (none : Option Nat)) 0 (some 79)) (va_up (va_up (fun _ => (0 : Int32)) 1 (nI 0)) 2 (nI 0)) ∧ Vl (iLea 78 79 (mkS σ 2 3)) 79 (20, 169) (fun _ => (none : Option Nat)) (fun _ => (0 : Int32)) := by
  obtain ⟨⟨m, s, sh⟩, h_, gl, gr⟩ := σ
  obtain rfl : m = 78 := h
  exact ⟨⟨rfl, rfl, rfl⟩, ⟨rfl, rfl, rfl⟩⟩
theorem v0_78 : Vl ((y0_46 L xs)) 78 (2, 3) (va_up (fun _ => (none : Option Nat)) 0 (some 79)) (va_up (va_up (fun _ => (0 : Int32)) 1 (nI 0)) 2 (nI 0)) := vl_sa ((q0_41 g0_39.1).1) (k0_41 (by decide) (by decide))
theorem v0_79 : Vl ((y0_46 L xs)) 79 (20, 169) (fun _ => (none : Option Nat)) (fun _ => (0 : Int32)) := vl_sa ((q0_41 g0_39.1).2) (k0_41 (by decide) (by decide))
theorem q0_43 {σ : mvSt} (h : σ.1.1 = 80) : Vl (mkS σ 20 30) 80 (20, 30) (fun _ => (none : Option Nat)) (fun _ => (0 : Int32)) := by
  obtain ⟨⟨m, s, sh⟩, h_, gl, gr⟩ := σ
  obtain rfl : m = 80 := h
  exact ⟨rfl, rfl, rfl⟩
theorem v0_80 : Vl ((y0_46 L xs)) 80 (20, 30) (fun _ => (none : Option Nat)) (fun _ => (0 : Int32)) := vl_sa (q0_43 g0_42.1) (k0_43 (by decide) (by decide))
theorem q0_46 {σ : mvSt} (h : σ.1.1 = 81) : Vl (iRef (mkS σ 12 33)) 81 (12, 33) (va_up (va_up (va_up (va_up (va_up (va_up (va_up (va_up (va_up (va_up (va_up (va_up (va_up (va_up (va_up (va_up (fun _ => (none : Option Nat)) 0 (some 82)) 1 (some 83)) 2 (some 84)) 3 (some 85)) 15 (some 86)) 20 (some 87)) 21 (some 88)) 22 (some 89)) 23 (some 90)) 24 (some 91)) 27 (some 92)) 28 (some 93)) 29 (some 94)) 30 (some 95)) 31 (some 96)) 32 (some 97)) (va_up (va_up (va_up (fun _ => (0 : Int32)) 5 (-1)) 6 (-1)) 25 (nI 1)) ∧ Vl (iRef (mkS σ 12 33)) 82 (20, 1726) (fun _ => (none : Option Nat)) (fun _ => (0 : Int32)) ∧ Vl (iRef (mkS σ 12 33)) 83 (20, 1726) (fun _ => (none : Option Nat)) (fun _ => (0 : Int32)) ∧ Vl (iRef (mkS σ 12 33)) 84 (20, 2724) (fun _ => (none : Option Nat)) (fun _ => (0 : Int32)) ∧ Vl (iRef (mkS σ 12 33)) 85 (20, 300) (fun _ => (none : Option Nat)) (fun _ => (0 : Int32)) ∧ Vl (iRef (mkS σ 12 33)) 86 (20, 160) (fun _ => (none : Option Nat)) (fun _ => (0 : Int32)) ∧ Vl (iRef (mkS σ 12 33)) 87 (20, 11) (fun _ => (none : Option Nat)) (fun _ => (0 : Int32)) ∧ Vl (iRef (mkS σ 12 33)) 88 (20, 30) (fun _ => (none : Option Nat)) (fun _ => (0 : Int32)) ∧ Vl (iRef (mkS σ 12 33)) 89 (21, 330) (fun _ => (none : Option Nat)) (fun _ => (0 : Int32)) ∧ Vl (iRef (mkS σ 12 33)) 90 (22, 330) (fun _ => (none : Option Nat)) (fun _ => (0 : Int32)) ∧ Vl (iRef (mkS σ 12 33)) 91 (20, 30) (fun _ => (none : Option Nat)) (fun _ => (0 : Int32)) ∧ Vl (iRef (mkS σ 12 33)) 92 (20, 38) (fun _ => (none : Option Nat)) (fun _ => (0 : Int32)) ∧ Vl (iRef (mkS σ 12 33)) 93 (20, 30) (fun _ => (none : Option Nat)) (fun _ => (0 : Int32)) ∧ Vl (iRef (mkS σ 12 33)) 94 (20, 64) (fun _ => (none : Option Nat)) (fun _ => (0 : Int32)) ∧ Vl (iRef (mkS σ 12 33)) 95 (20, 64) (fun _ => (none : Option Nat)) (fun _ => (0 : Int32)) ∧ Vl (iRef (mkS σ 12 33)) 96 (20, 64) (fun _ => (none : Option Nat)) (fun _ => (0 : Int32)) ∧ Vl (iRef (mkS σ 12 33)) 97 (20, 64) (fun _ => (none : Option Nat)) (fun _ => (0 : Int32)) := by
  obtain ⟨⟨m, s, sh⟩, h_, gl, gr⟩ := σ
  obtain rfl : m = 81 := h
  exact ⟨⟨rfl, rfl, rfl⟩, ⟨rfl, rfl, rfl⟩, ⟨rfl, rfl, rfl⟩, ⟨rfl, rfl, rfl⟩, ⟨rfl, rfl, rfl⟩, ⟨rfl, rfl, rfl⟩, ⟨rfl, rfl, rfl⟩, ⟨rfl, rfl, rfl⟩, ⟨rfl, rfl, rfl⟩, ⟨rfl, rfl, rfl⟩, ⟨rfl, rfl, rfl⟩, ⟨rfl, rfl, rfl⟩, ⟨rfl, rfl, rfl⟩, ⟨rfl, rfl, rfl⟩, ⟨rfl, rfl, rfl⟩, ⟨rfl, rfl, rfl⟩, ⟨rfl, rfl, rfl⟩⟩
theorem v0_81 : Vl ((y0_46 L xs)) 81 (12, 33) (va_up (va_up (va_up (va_up (va_up (va_up (va_up (va_up (va_up (va_up (va_up (va_up (va_up (va_up (va_up (va_up (fun _ => (none : Option Nat)) 0 (some 82)) 1 (some 83)) 2 (some 84)) 3 (some 85)) 15 (some 86)) 20 (some 87)) 21 (some 88)) 22 (some 89)) 23 (some 90)) 24 (some 91)) 27 (some 92)) 28 (some 93)) 29 (some 94)) 30 (some 95)) 31 (some 96)) 32 (some 97)) (va_up (va_up (va_up (fun _ => (0 : Int32)) 5 (-1)) 6 (-1)) 25 (nI 1)) := vl_sa ((q0_46 g0_44.1).1) (k0_46 (by decide))
theorem v0_82 : Vl ((y0_46 L xs)) 82 (20, 1726) (fun _ => (none : Option Nat)) (fun _ => (0 : Int32)) := vl_sa ((q0_46 g0_44.1).2.1) (k0_46 (by decide))
theorem v0_83 : Vl ((y0_46 L xs)) 83 (20, 1726) (fun _ => (none : Option Nat)) (fun _ => (0 : Int32)) := vl_sa ((q0_46 g0_44.1).2.2.1) (k0_46 (by decide))
theorem v0_84 : Vl ((y0_46 L xs)) 84 (20, 2724) (fun _ => (none : Option Nat)) (fun _ => (0 : Int32)) := vl_sa ((q0_46 g0_44.1).2.2.2.1) (k0_46 (by decide))
theorem v0_85 : Vl ((y0_46 L xs)) 85 (20, 300) (fun _ => (none : Option Nat)) (fun _ => (0 : Int32)) := vl_sa ((q0_46 g0_44.1).2.2.2.2.1) (k0_46 (by decide))
theorem v0_86 : Vl ((y0_46 L xs)) 86 (20, 160) (fun _ => (none : Option Nat)) (fun _ => (0 : Int32)) := vl_sa ((q0_46 g0_44.1).2.2.2.2.2.1) (k0_46 (by decide))
theorem v0_87 : Vl ((y0_46 L xs)) 87 (20, 11) (fun _ => (none : Option Nat)) (fun _ => (0 : Int32)) := vl_sa ((q0_46 g0_44.1).2.2.2.2.2.2.1) (k0_46 (by decide))
theorem v0_88 : Vl ((y0_46 L xs)) 88 (20, 30) (fun _ => (none : Option Nat)) (fun _ => (0 : Int32)) := vl_sa ((q0_46 g0_44.1).2.2.2.2.2.2.2.1) (k0_46 (by decide))
theorem v0_89 : Vl ((y0_46 L xs)) 89 (21, 330) (fun _ => (none : Option Nat)) (fun _ => (0 : Int32)) := vl_sa ((q0_46 g0_44.1).2.2.2.2.2.2.2.2.1) (k0_46 (by decide))
theorem v0_90 : Vl ((y0_46 L xs)) 90 (22, 330) (fun _ => (none : Option Nat)) (fun _ => (0 : Int32)) := vl_sa ((q0_46 g0_44.1).2.2.2.2.2.2.2.2.2.1) (k0_46 (by decide))
theorem v0_91 : Vl ((y0_46 L xs)) 91 (20, 30) (fun _ => (none : Option Nat)) (fun _ => (0 : Int32)) := vl_sa ((q0_46 g0_44.1).2.2.2.2.2.2.2.2.2.2.1) (k0_46 (by decide))
theorem v0_92 : Vl ((y0_46 L xs)) 92 (20, 38) (fun _ => (none : Option Nat)) (fun _ => (0 : Int32)) := vl_sa ((q0_46 g0_44.1).2.2.2.2.2.2.2.2.2.2.2.1) (k0_46 (by decide))
theorem v0_93 : Vl ((y0_46 L xs)) 93 (20, 30) (fun _ => (none : Option Nat)) (fun _ => (0 : Int32)) := vl_sa ((q0_46 g0_44.1).2.2.2.2.2.2.2.2.2.2.2.2.1) (k0_46 (by decide))
theorem v0_94 : Vl ((y0_46 L xs)) 94 (20, 64) (fun _ => (none : Option Nat)) (fun _ => (0 : Int32)) := vl_sa ((q0_46 g0_44.1).2.2.2.2.2.2.2.2.2.2.2.2.2.1) (k0_46 (by decide))
theorem v0_95 : Vl ((y0_46 L xs)) 95 (20, 64) (fun _ => (none : Option Nat)) (fun _ => (0 : Int32)) := vl_sa ((q0_46 g0_44.1).2.2.2.2.2.2.2.2.2.2.2.2.2.2.1) (k0_46 (by decide))
theorem v0_96 : Vl ((y0_46 L xs)) 96 (20, 64) (fun _ => (none : Option Nat)) (fun _ => (0 : Int32)) := vl_sa ((q0_46 g0_44.1).2.2.2.2.2.2.2.2.2.2.2.2.2.2.2.1) (k0_46 (by decide))
theorem v0_97 : Vl ((y0_46 L xs)) 97 (20, 64) (fun _ => (none : Option Nat)) (fun _ => (0 : Int32)) := vl_sa ((q0_46 g0_44.1).2.2.2.2.2.2.2.2.2.2.2.2.2.2.2.2) (k0_46 (by decide))
theorem v0_8 : Vl ((y0_46 L xs)) 8 (1, 10) (va_up (va_up (va_up (va_up (va_up (va_up (fun _ => (none : Option Nat)) 0 (some 9)) 1 (some 11)) 2 (some 33)) 3 (some 36)) 4 none) 8 (some 39)) (va_up (va_up (va_up (va_up (fun _ => (0 : Int32)) 5 (-1)) 6 (nI 0)) 7 (nI 0)) 9 (nI 1)) := by
  have V : Vl (y0_0 L xs) 8 (1, 10) (fun _ => none) (fun _ => 0) := by
    have q : ∀ σ : mvSt, σ.1.1 = 8 → Vl (mkS σ 1 10) 8 (1, 10) (fun _ => none) (fun _ => 0) := by
      intro σ h
      obtain ⟨⟨m, s, sh⟩, h_, gl, gr⟩ := σ
      obtain rfl : m = 8 := h
      exact ⟨rfl, rfl, rfl⟩
    exact q _ g0_m1.1
  replace V : Vl (y0_1 L xs) 8 _ _ _ := vl_sa V (sa_mk g0_0 (by decide))
  replace V : Vl (y0_2 L xs) 8 _ _ _ := vl_sa V (f_iPth (by decide) g0_1 (by decide) (by decide))
  replace V : Vl (y0_3 L xs) 8 _ _ _ := vl_pR V
  replace V : Vl (y0_4 L xs) 8 _ _ _ := vl_sa V (sa_mk g0_3 (by decide))
  replace V : Vl (y0_5 L xs) 8 _ _ _ := vl_sa V (f_iHol11 g0_4 (by decide) (by decide))
  replace V : Vl (y0_6 L xs) 8 _ _ _ := vl_pR V
  replace V : Vl (y0_7 L xs) 8 _ _ _ := vl_sa V (sa_mk g0_6 (by decide))
  replace V : Vl (y0_8 L xs) 8 _ _ _ := vl_sa V (f_iRck (by decide) g0_7 (by decide) (by decide))
  replace V : Vl (y0_9 L xs) 8 _ _ _ := vl_pR V
  replace V : Vl (y0_10 L xs) 8 _ _ _ := vl_sa V (sa_mk g0_9 (by decide))
  replace V : Vl (y0_11 L xs) 8 _ _ _ := vl_sa V (f_iRck (by decide) g0_10 (by decide) (by decide))
  replace V : Vl (y0_12 L xs) 8 _ _ _ := vl_pR V
  replace V : Vl (y0_13 L xs) 8 _ _ _ := vl_pR V
  replace V : Vl (y0_14 L xs) 8 _ _ _ := vl_pI V
  replace V : Vl (y0_15 L xs) 8 _ _ _ := vl_pI V
  replace V : Vl (y0_16 L xs) 8 _ _ _ := vl_pI V
  replace V : Vl (y0_17 L xs) 8 _ _ _ := vl_sa V (sa_mk g0_16 (by decide))
  replace V : Vl (y0_18 L xs) 8 _ _ _ := vl_pR V
  replace V : Vl (y0_19 L xs) 8 _ _ _ := vl_pI V
  exact vl_sa V (k0_19 (by decide) (by decide))
theorem v0_7 : Vl ((y0_46 L xs)) 7 (11, 11) (va_up (va_up (va_up (va_up (va_up (va_up (va_up (va_up (va_up (va_up (va_up (fun _ => (none : Option Nat)) 0 (some 8)) 1 (some 11)) 2 (some 9)) 3 (some 40)) 4 (some 62)) 5 (some 67)) 6 (some 68)) 7 (some 72)) 8 (some 73)) 9 (some 78)) 10 (some 80)) (fun _ => (0 : Int32)) := by
  have V : Vl (s0A L xs) 7 (11, 11) (fun _ => none) (fun _ => 0) := ⟨rfl, rfl, rfl⟩
  replace V : Vl (y0_0 L xs) 7 _ _ _ := vl_sa V (sa_mk g0_m1 (by decide))
  replace V : Vl (y0_1 L xs) 7 _ _ _ := vl_sa V (sa_mk g0_0 (by decide))
  replace V : Vl (y0_2 L xs) 7 _ _ _ := vl_sa V (f_iPth (by decide) g0_1 (by decide) (by decide))
  replace V : Vl (y0_3 L xs) 7 _ _ _ := vl_sa V (sa_pR (by decide))
  replace V : Vl (y0_4 L xs) 7 _ _ _ := vl_sa V (sa_mk g0_3 (by decide))
  replace V : Vl (y0_5 L xs) 7 _ _ _ := vl_sa V (f_iHol11 g0_4 (by decide) (by decide))
  replace V : Vl (y0_6 L xs) 7 _ _ _ := vl_sa V (sa_pR (by decide))
  replace V : Vl (y0_7 L xs) 7 _ _ _ := vl_sa V (sa_mk g0_6 (by decide))
  replace V : Vl (y0_8 L xs) 7 _ _ _ := vl_sa V (f_iRck (by decide) g0_7 (by decide) (by decide))
  replace V : Vl (y0_9 L xs) 7 _ _ _ := vl_sa V (sa_pR (by decide))
  replace V : Vl (y0_10 L xs) 7 _ _ _ := vl_sa V (sa_mk g0_9 (by decide))
  replace V : Vl (y0_11 L xs) 7 _ _ _ := vl_sa V (f_iRck (by decide) g0_10 (by decide) (by decide))
  replace V : Vl (y0_12 L xs) 7 _ _ _ := vl_sa V (sa_pR (by decide))
  replace V : Vl (y0_13 L xs) 7 _ _ _ := vl_sa V (sa_pR (by decide))
  replace V : Vl (y0_14 L xs) 7 _ _ _ := vl_sa V (sa_pI (by decide))
  replace V : Vl (y0_15 L xs) 7 _ _ _ := vl_sa V (sa_pI (by decide))
  replace V : Vl (y0_16 L xs) 7 _ _ _ := vl_sa V (sa_pI (by decide))
  replace V : Vl (y0_17 L xs) 7 _ _ _ := vl_sa V (sa_mk g0_16 (by decide))
  replace V : Vl (y0_18 L xs) 7 _ _ _ := vl_sa V (sa_pR (by decide))
  replace V : Vl (y0_19 L xs) 7 _ _ _ := vl_sa V (sa_pI (by decide))
  replace V : Vl (y0_20 L xs) 7 _ _ _ := vl_pR V
  replace V : Vl (y0_21 L xs) 7 _ _ _ := vl_pR V
  replace V : Vl (y0_22 L xs) 7 _ _ _ := vl_pR V
  replace V : Vl (y0_23 L xs) 7 _ _ _ := vl_sa V (sa_mk g0_22 (by decide))
  replace V : Vl (y0_24 L xs) 7 _ _ _ := vl_sa V (f_iHol40 g0_23 (by decide) (by decide))
  replace V : Vl (y0_25 L xs) 7 _ _ _ := vl_pR V
  replace V : Vl (y0_26 L xs) 7 _ _ _ := vl_sa V (sa_mk g0_25 (by decide))
  replace V : Vl (y0_27 L xs) 7 _ _ _ := vl_sa V (f_iMom (by decide) g0_26 (by decide) (by decide))
  replace V : Vl (y0_28 L xs) 7 _ _ _ := vl_pR V
  replace V : Vl (y0_29 L xs) 7 _ _ _ := vl_sa V (sa_mk g0_28 (by decide))
  replace V : Vl (y0_30 L xs) 7 _ _ _ := vl_pR V
  replace V : Vl (y0_31 L xs) 7 _ _ _ := vl_sa V (sa_mk g0_30 (by decide))
  replace V : Vl (y0_32 L xs) 7 _ _ _ := vl_sa V (f_iTap g0_31 (by decide) (by decide))
  replace V : Vl (y0_33 L xs) 7 _ _ _ := vl_pR V
  replace V : Vl (y0_34 L xs) 7 _ _ _ := vl_sa V (sa_mk g0_33 (by decide))
  replace V : Vl (y0_35 L xs) 7 _ _ _ := vl_sa V (f_iRdr (by decide) g0_34 (by decide) (by decide))
  replace V : Vl (y0_36 L xs) 7 _ _ _ := vl_pR V
  replace V : Vl (y0_37 L xs) 7 _ _ _ := vl_sa V (sa_mk g0_36 (by decide))
  replace V : Vl (y0_38 L xs) 7 _ _ _ := vl_sa V (f_iSea (by decide) g0_37 (by decide) (by decide))
  replace V : Vl (y0_39 L xs) 7 _ _ _ := vl_pR V
  replace V : Vl (y0_40 L xs) 7 _ _ _ := vl_sa V (sa_mk g0_39 (by decide))
  replace V : Vl (y0_41 L xs) 7 _ _ _ := vl_sa V (f_iLea (by decide) g0_40 (by decide) (by decide))
  replace V : Vl (y0_42 L xs) 7 _ _ _ := vl_pR V
  replace V : Vl (y0_43 L xs) 7 _ _ _ := vl_sa V (sa_mk g0_42 (by decide))
  replace V : Vl (y0_44 L xs) 7 _ _ _ := vl_pR V
  exact vl_sa V (k0_44 (by decide))
theorem v0_0 : Vl (y0_46 L xs) 0 (lyB L 0) (msR 0) (msI xs 0) := vl_sa (σ := s0A L xs) ⟨rfl, rfl, rfl⟩ (k0_m1 (by decide) (by decide) (by decide))
theorem v0_1 : Vl (y0_46 L xs) 1 (lyB L 1) (msR 1) (msI xs 1) := vl_sa (σ := s0A L xs) ⟨rfl, rfl, rfl⟩ (k0_m1 (by decide) (by decide) (by decide))
theorem v0_2 : Vl (y0_46 L xs) 2 (lyB L 2) (msR 2) (msI xs 2) := vl_sa (σ := s0A L xs) ⟨rfl, rfl, rfl⟩ (k0_m1 (by decide) (by decide) (by decide))
theorem v0_3 : Vl (y0_46 L xs) 3 (lyB L 3) (msR 3) (msI xs 3) := vl_sa (σ := s0A L xs) ⟨rfl, rfl, rfl⟩ (k0_m1 (by decide) (by decide) (by decide))
theorem v0_4 : Vl (y0_46 L xs) 4 (lyB L 4) (msR 4) (msI xs 4) := vl_sa (σ := s0A L xs) ⟨rfl, rfl, rfl⟩ (k0_m1 (by decide) (by decide) (by decide))
theorem v0_5 : Vl (y0_46 L xs) 5 (lyB L 5) (msR 5) (msI xs 5) := vl_sa (σ := s0A L xs) ⟨rfl, rfl, rfl⟩ (k0_m1 (by decide) (by decide) (by decide))
theorem v0_6 : Vl (y0_46 L xs) 6 (lyB L 6) (msR 6) (msI xs 6) := vl_sa (σ := s0A L xs) ⟨rfl, rfl, rfl⟩ (k0_m1 (by decide) (by decide) (by decide))
theorem y0_eq : iRef (mkS (iMoo (s0A L xs)) 12 33) = (y0_46 L xs) := rfl
theorem n0_m1 : (s0A L xs).1.2.1 = 11 := rfl
theorem n0_0 : (y0_0 L xs).1.2.1 = 21 := by
  have e := n0_m1 (L := L) (xs := xs)
  show (s0A L xs).1.2.1 + 10 = 21
  omega
theorem n0_1 : (y0_1 L xs).1.2.1 = 24 := by
  have e := n0_0 (L := L) (xs := xs)
  show (y0_0 L xs).1.2.1 + 3 = 24
  omega
theorem n0_2 : (y0_2 L xs).1.2.1 = 924 := by
  have e := n0_1 (L := L) (xs := xs)
  show (y0_1 L xs).1.2.1 + 900 = 924
  omega
theorem n0_3 : (y0_3 L xs).1.2.1 = 924 := by
  have e := n0_2 (L := L) (xs := xs)
  show (y0_2 L xs).1.2.1 = 924
  omega
theorem n0_4 : (y0_4 L xs).1.2.1 = 937 := by
  have e := n0_3 (L := L) (xs := xs)
  show (y0_3 L xs).1.2.1 + 13 = 937
  omega
theorem n0_5 : (y0_5 L xs).1.2.1 = 2693 := by
  have e := n0_4 (L := L) (xs := xs)
  show (y0_4 L xs).1.2.1 + 30 + 30 + 11 + 5 + 5 + 5 + 30 + 1560 + 3 + 6 + 6 + 3 + 6 + 6 + 3 + 8 + 8 + 3 + 8 + 8 + 12 = 2693
  omega
theorem n0_6 : (y0_6 L xs).1.2.1 = 2693 := by
  have e := n0_5 (L := L) (xs := xs)
  show (y0_5 L xs).1.2.1 = 2693
  omega
theorem n0_7 : (y0_7 L xs).1.2.1 = 2695 := by
  have e := n0_6 (L := L) (xs := xs)
  show (y0_6 L xs).1.2.1 + 2 = 2695
  omega
theorem n0_8 : (y0_8 L xs).1.2.1 = 2770 := by
  have e := n0_7 (L := L) (xs := xs)
  show (y0_7 L xs).1.2.1 + 64 + 11 = 2770
  omega
theorem n0_9 : (y0_9 L xs).1.2.1 = 2770 := by
  have e := n0_8 (L := L) (xs := xs)
  show (y0_8 L xs).1.2.1 = 2770
  omega
theorem n0_10 : (y0_10 L xs).1.2.1 = 2772 := by
  have e := n0_9 (L := L) (xs := xs)
  show (y0_9 L xs).1.2.1 + 2 = 2772
  omega
theorem n0_11 : (y0_11 L xs).1.2.1 = 2847 := by
  have e := n0_10 (L := L) (xs := xs)
  show (y0_10 L xs).1.2.1 + 64 + 11 = 2847
  omega
theorem n0_12 : (y0_12 L xs).1.2.1 = 2847 := by
  have e := n0_11 (L := L) (xs := xs)
  show (y0_11 L xs).1.2.1 = 2847
  omega
theorem n0_13 : (y0_13 L xs).1.2.1 = 2847 := by
  have e := n0_12 (L := L) (xs := xs)
  show (y0_12 L xs).1.2.1 = 2847
  omega
theorem n0_14 : (y0_14 L xs).1.2.1 = 2847 := by
  have e := n0_13 (L := L) (xs := xs)
  show (y0_13 L xs).1.2.1 = 2847
  omega
theorem n0_15 : (y0_15 L xs).1.2.1 = 2847 := by
  have e := n0_14 (L := L) (xs := xs)
  show (y0_14 L xs).1.2.1 = 2847
  omega
theorem n0_16 : (y0_16 L xs).1.2.1 = 2847 := by
  have e := n0_15 (L := L) (xs := xs)
  show (y0_15 L xs).1.2.1 = 2847
  omega
theorem n0_17 : (y0_17 L xs).1.2.1 = 3747 := by
  have e := n0_16 (L := L) (xs := xs)
  show (y0_16 L xs).1.2.1 + 900 = 3747
  omega
theorem n0_18 : (y0_18 L xs).1.2.1 = 3747 := by
  have e := n0_17 (L := L) (xs := xs)
  show (y0_17 L xs).1.2.1 = 3747
  omega
theorem n0_19 : (y0_19 L xs).1.2.1 = 3747 := by
  have e := n0_18 (L := L) (xs := xs)
  show (y0_18 L xs).1.2.1 = 3747
  omega
theorem n0_20 : (y0_20 L xs).1.2.1 = 3747 := by
  have e := n0_19 (L := L) (xs := xs)
  show (y0_19 L xs).1.2.1 = 3747
  omega
theorem n0_21 : (y0_21 L xs).1.2.1 = 3747 := by
  have e := n0_20 (L := L) (xs := xs)
  show (y0_20 L xs).1.2.1 = 3747
  omega
theorem n0_22 : (y0_22 L xs).1.2.1 = 3747 := by
  have e := n0_21 (L := L) (xs := xs)
  show (y0_21 L xs).1.2.1 = 3747
  omega
theorem n0_23 : (y0_23 L xs).1.2.1 = 3760 := by
  have e := n0_22 (L := L) (xs := xs)
  show (y0_22 L xs).1.2.1 + 13 = 3760
  omega
theorem n0_24 : (y0_24 L xs).1.2.1 = 5516 := by
  have e := n0_23 (L := L) (xs := xs)
  show (y0_23 L xs).1.2.1 + 30 + 30 + 11 + 5 + 5 + 5 + 30 + 1560 + 3 + 6 + 6 + 3 + 6 + 6 + 3 + 8 + 8 + 3 + 8 + 8 + 12 = 5516
  omega
theorem n0_25 : (y0_25 L xs).1.2.1 = 5516 := by
  have e := n0_24 (L := L) (xs := xs)
  show (y0_24 L xs).1.2.1 = 5516
  omega
theorem n0_26 : (y0_26 L xs).1.2.1 = 5527 := by
  have e := n0_25 (L := L) (xs := xs)
  show (y0_25 L xs).1.2.1 + 11 = 5527
  omega
theorem n0_27 : (y0_27 L xs).1.2.1 = 5572 := by
  have e := n0_26 (L := L) (xs := xs)
  show (y0_26 L xs).1.2.1 + 5 + 5 + 5 + 30 = 5572
  omega
theorem n0_28 : (y0_28 L xs).1.2.1 = 5572 := by
  have e := n0_27 (L := L) (xs := xs)
  show (y0_27 L xs).1.2.1 = 5572
  omega
theorem n0_29 : (y0_29 L xs).1.2.1 = 5576 := by
  have e := n0_28 (L := L) (xs := xs)
  show (y0_28 L xs).1.2.1 + 4 = 5576
  omega
theorem n0_30 : (y0_30 L xs).1.2.1 = 5576 := by
  have e := n0_29 (L := L) (xs := xs)
  show (y0_29 L xs).1.2.1 = 5576
  omega
theorem n0_31 : (y0_31 L xs).1.2.1 = 5583 := by
  have e := n0_30 (L := L) (xs := xs)
  show (y0_30 L xs).1.2.1 + 7 = 5583
  omega
theorem n0_32 : (y0_32 L xs).1.2.1 = 6216 := by
  have e := n0_31 (L := L) (xs := xs)
  show (y0_31 L xs).1.2.1 + 300 + 301 + 32 = 6216
  omega
theorem n0_33 : (y0_33 L xs).1.2.1 = 6216 := by
  have e := n0_32 (L := L) (xs := xs)
  show (y0_32 L xs).1.2.1 = 6216
  omega
theorem n0_34 : (y0_34 L xs).1.2.1 = 6221 := by
  have e := n0_33 (L := L) (xs := xs)
  show (y0_33 L xs).1.2.1 + 5 = 6221
  omega
theorem n0_35 : (y0_35 L xs).1.2.1 = 6221 := by
  have e := n0_34 (L := L) (xs := xs)
  show (y0_34 L xs).1.2.1 = 6221
  omega
theorem n0_36 : (y0_36 L xs).1.2.1 = 6221 := by
  have e := n0_35 (L := L) (xs := xs)
  show (y0_35 L xs).1.2.1 = 6221
  omega
theorem n0_37 : (y0_37 L xs).1.2.1 = 6227 := by
  have e := n0_36 (L := L) (xs := xs)
  show (y0_36 L xs).1.2.1 + 6 = 6227
  omega
theorem n0_38 : (y0_38 L xs).1.2.1 = 6483 := by
  have e := n0_37 (L := L) (xs := xs)
  show (y0_37 L xs).1.2.1 + 64 + 64 + 64 + 64 = 6483
  omega
theorem n0_39 : (y0_39 L xs).1.2.1 = 6483 := by
  have e := n0_38 (L := L) (xs := xs)
  show (y0_38 L xs).1.2.1 = 6483
  omega
theorem n0_40 : (y0_40 L xs).1.2.1 = 6486 := by
  have e := n0_39 (L := L) (xs := xs)
  show (y0_39 L xs).1.2.1 + 3 = 6486
  omega
theorem n0_41 : (y0_41 L xs).1.2.1 = 6655 := by
  have e := n0_40 (L := L) (xs := xs)
  show (y0_40 L xs).1.2.1 + 169 = 6655
  omega
theorem n0_42 : (y0_42 L xs).1.2.1 = 6655 := by
  have e := n0_41 (L := L) (xs := xs)
  show (y0_41 L xs).1.2.1 = 6655
  omega
theorem n0_43 : (y0_43 L xs).1.2.1 = 6685 := by
  have e := n0_42 (L := L) (xs := xs)
  show (y0_42 L xs).1.2.1 + 30 = 6685
  omega
theorem n0_44 : (y0_44 L xs).1.2.1 = 6685 := by
  have e := n0_43 (L := L) (xs := xs)
  show (y0_43 L xs).1.2.1 = 6685
  omega
theorem n0_45 : (y0_45 L xs).1.2.1 = 6718 := by
  have e := n0_44 (L := L) (xs := xs)
  show (y0_44 L xs).1.2.1 + 33 = 6718
  omega
theorem n0_46 : (y0_46 L xs).1.2.1 = 14409 := by
  have e := n0_45 (L := L) (xs := xs)
  show (y0_45 L xs).1.2.1 + 1726 + 1726 + 2724 + 300 + 160 + 11 + 30 + 330 + 330 + 30 + 38 + 30 + 64 + 64 + 64 + 64 = 14409
  omega
theorem y0_n : (y0_46 L xs).1.2.1 = 14409 := n0_46
theorem r0_0 : (y0_46 L xs).2.2.2 0 = lyR none none none false 0 0 := (v0_0 (L := L) (xs := xs)).2.1.trans rfl
theorem r0_1 : (y0_46 L xs).2.2.2 1 = lyR none none none false 0 1 := (v0_1 (L := L) (xs := xs)).2.1.trans rfl
theorem r0_2 : (y0_46 L xs).2.2.2 2 = lyR none none none false 0 2 := (v0_2 (L := L) (xs := xs)).2.1.trans (by
  funext k
  match k with
  | 0 => rfl
  | n + 1 => rfl)
theorem r0_3 : (y0_46 L xs).2.2.2 3 = lyR none none none false 0 3 := (v0_3 (L := L) (xs := xs)).2.1.trans rfl
theorem r0_4 : (y0_46 L xs).2.2.2 4 = lyR none none none false 0 4 := (v0_4 (L := L) (xs := xs)).2.1.trans (by
  funext k
  match k with
  | 0 => rfl
  | n + 1 => rfl)
theorem r0_5 : (y0_46 L xs).2.2.2 5 = lyR none none none false 0 5 := (v0_5 (L := L) (xs := xs)).2.1.trans rfl
theorem r0_6 : (y0_46 L xs).2.2.2 6 = lyR none none none false 0 6 := (v0_6 (L := L) (xs := xs)).2.1.trans rfl
theorem r0_7 : (y0_46 L xs).2.2.2 7 = lyR none none none false 0 7 := (v0_7 (L := L) (xs := xs)).2.1.trans (by
  funext k
  match k with
  | 0 => rfl
  | 1 => rfl
  | 2 => rfl
  | 3 => rfl
  | 4 => rfl
  | 5 => rfl
  | 6 => rfl
  | 7 => rfl
  | 8 => rfl
  | 9 => rfl
  | 10 => rfl
  | n + 11 => rfl)
theorem r0_8 : (y0_46 L xs).2.2.2 8 = lyR none none none false 0 8 := (v0_8 (L := L) (xs := xs)).2.1.trans (by
  funext k
  match k with
  | 0 => rfl
  | 1 => rfl
  | 2 => rfl
  | 3 => rfl
  | 4 => rfl
  | 5 => rfl
  | 6 => rfl
  | 7 => rfl
  | 8 => rfl
  | 9 => rfl
  | n + 10 => rfl)
theorem r0_9 : (y0_46 L xs).2.2.2 9 = lyR none none none false 0 9 := (v0_9 (L := L) (xs := xs)).2.1.trans (by
  funext k
  match k with
  | 0 => rfl
  | 1 => rfl
  | 2 => rfl
  | n + 3 => rfl)
theorem r0_10 : (y0_46 L xs).2.2.2 10 = lyR none none none false 0 10 := (v0_10 (L := L) (xs := xs)).2.1.trans rfl
theorem r0_11 : (y0_46 L xs).2.2.2 11 = lyR none none none false 0 11 := (v0_11 (L := L) (xs := xs)).2.1.trans (by
  funext k
  match k with
  | 0 => rfl
  | 1 => rfl
  | 2 => rfl
  | 3 => rfl
  | 4 => rfl
  | 5 => rfl
  | 6 => rfl
  | 7 => rfl
  | 8 => rfl
  | 9 => rfl
  | 10 => rfl
  | 11 => rfl
  | 12 => rfl
  | n + 13 => rfl)
theorem r0_12 : (y0_46 L xs).2.2.2 12 = lyR none none none false 0 12 := (v0_12 (L := L) (xs := xs)).2.1.trans rfl
theorem r0_13 : (y0_46 L xs).2.2.2 13 = lyR none none none false 0 13 := (v0_13 (L := L) (xs := xs)).2.1.trans rfl
theorem r0_14 : (y0_46 L xs).2.2.2 14 = lyR none none none false 0 14 := (v0_14 (L := L) (xs := xs)).2.1.trans (by
  funext k
  match k with
  | 0 => rfl
  | 1 => rfl
  | 2 => rfl
  | 3 => rfl
  | 4 => rfl
  | 5 => rfl
  | 6 => rfl
  | 7 => rfl
  | 8 => rfl
  | 9 => rfl
  | 10 => rfl
  | n + 11 => rfl)
theorem r0_15 : (y0_46 L xs).2.2.2 15 = lyR none none none false 0 15 := (v0_15 (L := L) (xs := xs)).2.1.trans rfl
theorem r0_16 : (y0_46 L xs).2.2.2 16 = lyR none none none false 0 16 := (v0_16 (L := L) (xs := xs)).2.1.trans rfl
theorem r0_17 : (y0_46 L xs).2.2.2 17 = lyR none none none false 0 17 := (v0_17 (L := L) (xs := xs)).2.1.trans rfl
theorem r0_18 : (y0_46 L xs).2.2.2 18 = lyR none none none false 0 18 := (v0_18 (L := L) (xs := xs)).2.1.trans rfl
theorem r0_19 : (y0_46 L xs).2.2.2 19 = lyR none none none false 0 19 := (v0_19 (L := L) (xs := xs)).2.1.trans rfl
theorem r0_20 : (y0_46 L xs).2.2.2 20 = lyR none none none false 0 20 := (v0_20 (L := L) (xs := xs)).2.1.trans (by
  funext k
  match k with
  | 0 => rfl
  | 1 => rfl
  | 2 => rfl
  | n + 3 => rfl)
theorem r0_21 : (y0_46 L xs).2.2.2 21 = lyR none none none false 0 21 := (v0_21 (L := L) (xs := xs)).2.1.trans rfl
theorem r0_22 : (y0_46 L xs).2.2.2 22 = lyR none none none false 0 22 := (v0_22 (L := L) (xs := xs)).2.1.trans rfl
theorem r0_23 : (y0_46 L xs).2.2.2 23 = lyR none none none false 0 23 := (v0_23 (L := L) (xs := xs)).2.1.trans (by
  funext k
  match k with
  | 0 => rfl
  | 1 => rfl
  | 2 => rfl
  | n + 3 => rfl)
theorem r0_24 : (y0_46 L xs).2.2.2 24 = lyR none none none false 0 24 := (v0_24 (L := L) (xs := xs)).2.1.trans rfl
theorem r0_25 : (y0_46 L xs).2.2.2 25 = lyR none none none false 0 25 := (v0_25 (L := L) (xs := xs)).2.1.trans rfl
theorem r0_26 : (y0_46 L xs).2.2.2 26 = lyR none none none false 0 26 := (v0_26 (L := L) (xs := xs)).2.1.trans (by
  funext k
  match k with
  | 0 => rfl
  | 1 => rfl
  | 2 => rfl
  | n + 3 => rfl)
theorem r0_27 : (y0_46 L xs).2.2.2 27 = lyR none none none false 0 27 := (v0_27 (L := L) (xs := xs)).2.1.trans rfl
theorem r0_28 : (y0_46 L xs).2.2.2 28 = lyR none none none false 0 28 := (v0_28 (L := L) (xs := xs)).2.1.trans rfl
theorem r0_29 : (y0_46 L xs).2.2.2 29 = lyR none none none false 0 29 := (v0_29 (L := L) (xs := xs)).2.1.trans (by
  funext k
  match k with
  | 0 => rfl
  | 1 => rfl
  | 2 => rfl
  | n + 3 => rfl)
theorem r0_30 : (y0_46 L xs).2.2.2 30 = lyR none none none false 0 30 := (v0_30 (L := L) (xs := xs)).2.1.trans rfl
theorem r0_31 : (y0_46 L xs).2.2.2 31 = lyR none none none false 0 31 := (v0_31 (L := L) (xs := xs)).2.1.trans rfl
theorem r0_32 : (y0_46 L xs).2.2.2 32 = lyR none none none false 0 32 := (v0_32 (L := L) (xs := xs)).2.1.trans rfl
theorem r0_33 : (y0_46 L xs).2.2.2 33 = lyR none none none false 0 33 := (v0_33 (L := L) (xs := xs)).2.1.trans (by
  funext k
  match k with
  | 0 => rfl
  | 1 => rfl
  | n + 2 => rfl)
theorem r0_34 : (y0_46 L xs).2.2.2 34 = lyR none none none false 0 34 := (v0_34 (L := L) (xs := xs)).2.1.trans rfl
theorem r0_35 : (y0_46 L xs).2.2.2 35 = lyR none none none false 0 35 := (v0_35 (L := L) (xs := xs)).2.1.trans rfl
theorem r0_36 : (y0_46 L xs).2.2.2 36 = lyR none none none false 0 36 := (v0_36 (L := L) (xs := xs)).2.1.trans (by
  funext k
  match k with
  | 0 => rfl
  | 1 => rfl
  | n + 2 => rfl)
theorem r0_37 : (y0_46 L xs).2.2.2 37 = lyR none none none false 0 37 := (v0_37 (L := L) (xs := xs)).2.1.trans rfl
theorem r0_38 : (y0_46 L xs).2.2.2 38 = lyR none none none false 0 38 := (v0_38 (L := L) (xs := xs)).2.1.trans rfl
theorem r0_39 : (y0_46 L xs).2.2.2 39 = lyR none none none false 0 39 := (v0_39 (L := L) (xs := xs)).2.1.trans rfl
theorem r0_40 : (y0_46 L xs).2.2.2 40 = lyR none none none false 0 40 := (v0_40 (L := L) (xs := xs)).2.1.trans (by
  funext k
  match k with
  | 0 => rfl
  | 1 => rfl
  | 2 => rfl
  | 3 => rfl
  | 4 => rfl
  | 5 => rfl
  | 6 => rfl
  | 7 => rfl
  | 8 => rfl
  | 9 => rfl
  | 10 => rfl
  | 11 => rfl
  | 12 => rfl
  | n + 13 => rfl)
theorem r0_41 : (y0_46 L xs).2.2.2 41 = lyR none none none false 0 41 := (v0_41 (L := L) (xs := xs)).2.1.trans rfl
theorem r0_42 : (y0_46 L xs).2.2.2 42 = lyR none none none false 0 42 := (v0_42 (L := L) (xs := xs)).2.1.trans rfl
theorem r0_43 : (y0_46 L xs).2.2.2 43 = lyR none none none false 0 43 := (v0_43 (L := L) (xs := xs)).2.1.trans (by
  funext k
  match k with
  | 0 => rfl
  | 1 => rfl
  | 2 => rfl
  | 3 => rfl
  | 4 => rfl
  | 5 => rfl
  | 6 => rfl
  | 7 => rfl
  | 8 => rfl
  | 9 => rfl
  | 10 => rfl
  | n + 11 => rfl)
theorem r0_44 : (y0_46 L xs).2.2.2 44 = lyR none none none false 0 44 := (v0_44 (L := L) (xs := xs)).2.1.trans rfl
theorem r0_45 : (y0_46 L xs).2.2.2 45 = lyR none none none false 0 45 := (v0_45 (L := L) (xs := xs)).2.1.trans rfl
theorem r0_46 : (y0_46 L xs).2.2.2 46 = lyR none none none false 0 46 := (v0_46 (L := L) (xs := xs)).2.1.trans rfl
theorem r0_47 : (y0_46 L xs).2.2.2 47 = lyR none none none false 0 47 := (v0_47 (L := L) (xs := xs)).2.1.trans rfl
theorem r0_48 : (y0_46 L xs).2.2.2 48 = lyR none none none false 0 48 := (v0_48 (L := L) (xs := xs)).2.1.trans rfl
theorem r0_49 : (y0_46 L xs).2.2.2 49 = lyR none none none false 0 49 := (v0_49 (L := L) (xs := xs)).2.1.trans (by
  funext k
  match k with
  | 0 => rfl
  | 1 => rfl
  | 2 => rfl
  | n + 3 => rfl)
theorem r0_50 : (y0_46 L xs).2.2.2 50 = lyR none none none false 0 50 := (v0_50 (L := L) (xs := xs)).2.1.trans rfl
theorem r0_51 : (y0_46 L xs).2.2.2 51 = lyR none none none false 0 51 := (v0_51 (L := L) (xs := xs)).2.1.trans rfl
theorem r0_52 : (y0_46 L xs).2.2.2 52 = lyR none none none false 0 52 := (v0_52 (L := L) (xs := xs)).2.1.trans (by
  funext k
  match k with
  | 0 => rfl
  | 1 => rfl
  | 2 => rfl
  | n + 3 => rfl)
theorem r0_53 : (y0_46 L xs).2.2.2 53 = lyR none none none false 0 53 := (v0_53 (L := L) (xs := xs)).2.1.trans rfl
theorem r0_54 : (y0_46 L xs).2.2.2 54 = lyR none none none false 0 54 := (v0_54 (L := L) (xs := xs)).2.1.trans rfl
theorem r0_55 : (y0_46 L xs).2.2.2 55 = lyR none none none false 0 55 := (v0_55 (L := L) (xs := xs)).2.1.trans (by
  funext k
  match k with
  | 0 => rfl
  | 1 => rfl
  | 2 => rfl
  | n + 3 => rfl)
theorem r0_56 : (y0_46 L xs).2.2.2 56 = lyR none none none false 0 56 := (v0_56 (L := L) (xs := xs)).2.1.trans rfl
theorem r0_57 : (y0_46 L xs).2.2.2 57 = lyR none none none false 0 57 := (v0_57 (L := L) (xs := xs)).2.1.trans rfl
theorem r0_58 : (y0_46 L xs).2.2.2 58 = lyR none none none false 0 58 := (v0_58 (L := L) (xs := xs)).2.1.trans (by
  funext k
  match k with
  | 0 => rfl
  | 1 => rfl
  | 2 => rfl
  | n + 3 => rfl)
theorem r0_59 : (y0_46 L xs).2.2.2 59 = lyR none none none false 0 59 := (v0_59 (L := L) (xs := xs)).2.1.trans rfl
theorem r0_60 : (y0_46 L xs).2.2.2 60 = lyR none none none false 0 60 := (v0_60 (L := L) (xs := xs)).2.1.trans rfl
theorem r0_61 : (y0_46 L xs).2.2.2 61 = lyR none none none false 0 61 := (v0_61 (L := L) (xs := xs)).2.1.trans rfl
theorem r0_62 : (y0_46 L xs).2.2.2 62 = lyR none none none false 0 62 := (v0_62 (L := L) (xs := xs)).2.1.trans (by
  funext k
  match k with
  | 0 => rfl
  | 1 => rfl
  | 2 => rfl
  | 3 => rfl
  | 4 => rfl
  | 5 => rfl
  | 6 => rfl
  | 7 => rfl
  | 8 => rfl
  | 9 => rfl
  | 10 => rfl
  | n + 11 => rfl)
theorem r0_63 : (y0_46 L xs).2.2.2 63 = lyR none none none false 0 63 := (v0_63 (L := L) (xs := xs)).2.1.trans rfl
theorem r0_64 : (y0_46 L xs).2.2.2 64 = lyR none none none false 0 64 := (v0_64 (L := L) (xs := xs)).2.1.trans rfl
theorem r0_65 : (y0_46 L xs).2.2.2 65 = lyR none none none false 0 65 := (v0_65 (L := L) (xs := xs)).2.1.trans rfl
theorem r0_66 : (y0_46 L xs).2.2.2 66 = lyR none none none false 0 66 := (v0_66 (L := L) (xs := xs)).2.1.trans rfl
theorem r0_67 : (y0_46 L xs).2.2.2 67 = lyR none none none false 0 67 := (v0_67 (L := L) (xs := xs)).2.1.trans (by
  funext k
  show none = (bif Nat.blt k 0 then some (98 + 7 * k) else none)
  rw [bltF (Nat.zero_le k)]
  rfl)
theorem r0_68 : (y0_46 L xs).2.2.2 68 = lyR none none none false 0 68 := (v0_68 (L := L) (xs := xs)).2.1.trans (by
  funext k
  match k with
  | 0 => rfl
  | 1 => rfl
  | 2 => rfl
  | 3 => rfl
  | 4 => rfl
  | 5 => rfl
  | 6 => rfl
  | n + 7 => rfl)
theorem r0_69 : (y0_46 L xs).2.2.2 69 = lyR none none none false 0 69 := (v0_69 (L := L) (xs := xs)).2.1.trans rfl
theorem r0_70 : (y0_46 L xs).2.2.2 70 = lyR none none none false 0 70 := (v0_70 (L := L) (xs := xs)).2.1.trans rfl
theorem r0_71 : (y0_46 L xs).2.2.2 71 = lyR none none none false 0 71 := (v0_71 (L := L) (xs := xs)).2.1.trans rfl
theorem r0_72 : (y0_46 L xs).2.2.2 72 = lyR none none none false 0 72 := (v0_72 (L := L) (xs := xs)).2.1.trans (by
  funext k
  match k with
  | 0 => rfl
  | 1 => rfl
  | 2 => rfl
  | 3 => rfl
  | 4 => rfl
  | n + 5 => rfl)
theorem r0_73 : (y0_46 L xs).2.2.2 73 = lyR none none none false 0 73 := (v0_73 (L := L) (xs := xs)).2.1.trans (by
  funext k
  match k with
  | 0 => rfl
  | 1 => rfl
  | 2 => rfl
  | 3 => rfl
  | 4 => rfl
  | 5 => rfl
  | n + 6 => rfl)
theorem r0_74 : (y0_46 L xs).2.2.2 74 = lyR none none none false 0 74 := (v0_74 (L := L) (xs := xs)).2.1.trans rfl
theorem r0_75 : (y0_46 L xs).2.2.2 75 = lyR none none none false 0 75 := (v0_75 (L := L) (xs := xs)).2.1.trans rfl
theorem r0_76 : (y0_46 L xs).2.2.2 76 = lyR none none none false 0 76 := (v0_76 (L := L) (xs := xs)).2.1.trans rfl
theorem r0_77 : (y0_46 L xs).2.2.2 77 = lyR none none none false 0 77 := (v0_77 (L := L) (xs := xs)).2.1.trans rfl
theorem r0_78 : (y0_46 L xs).2.2.2 78 = lyR none none none false 0 78 := (v0_78 (L := L) (xs := xs)).2.1.trans (by
  funext k
  match k with
  | 0 => rfl
  | 1 => rfl
  | 2 => rfl
  | n + 3 => rfl)
theorem r0_79 : (y0_46 L xs).2.2.2 79 = lyR none none none false 0 79 := (v0_79 (L := L) (xs := xs)).2.1.trans rfl
theorem r0_80 : (y0_46 L xs).2.2.2 80 = lyR none none none false 0 80 := (v0_80 (L := L) (xs := xs)).2.1.trans rfl
theorem r0_81 : (y0_46 L xs).2.2.2 81 = lyR none none none false 0 81 := (v0_81 (L := L) (xs := xs)).2.1.trans (by
  funext k
  match k with
  | 0 => rfl
  | 1 => rfl
  | 2 => rfl
  | 3 => rfl
  | 4 => rfl
  | 5 => rfl
  | 6 => rfl
  | 7 => rfl
  | 8 => rfl
  | 9 => rfl
  | 10 => rfl
  | 11 => rfl
  | 12 => rfl
  | 13 => rfl
  | 14 => rfl
  | 15 => rfl
  | 16 => rfl
  | 17 => rfl
  | 18 => rfl
  | 19 => rfl
  | 20 => rfl
  | 21 => rfl
  | 22 => rfl
  | 23 => rfl
  | 24 => rfl
  | 25 => rfl
  | 26 => rfl
  | 27 => rfl
  | 28 => rfl
  | 29 => rfl
  | 30 => rfl
  | 31 => rfl
  | 32 => rfl
  | n + 33 => rfl)
theorem r0_82 : (y0_46 L xs).2.2.2 82 = lyR none none none false 0 82 := (v0_82 (L := L) (xs := xs)).2.1.trans rfl
theorem r0_83 : (y0_46 L xs).2.2.2 83 = lyR none none none false 0 83 := (v0_83 (L := L) (xs := xs)).2.1.trans rfl
theorem r0_84 : (y0_46 L xs).2.2.2 84 = lyR none none none false 0 84 := (v0_84 (L := L) (xs := xs)).2.1.trans rfl
theorem r0_85 : (y0_46 L xs).2.2.2 85 = lyR none none none false 0 85 := (v0_85 (L := L) (xs := xs)).2.1.trans rfl
theorem r0_86 : (y0_46 L xs).2.2.2 86 = lyR none none none false 0 86 := (v0_86 (L := L) (xs := xs)).2.1.trans rfl
theorem r0_87 : (y0_46 L xs).2.2.2 87 = lyR none none none false 0 87 := (v0_87 (L := L) (xs := xs)).2.1.trans rfl
theorem r0_88 : (y0_46 L xs).2.2.2 88 = lyR none none none false 0 88 := (v0_88 (L := L) (xs := xs)).2.1.trans rfl
theorem r0_89 : (y0_46 L xs).2.2.2 89 = lyR none none none false 0 89 := (v0_89 (L := L) (xs := xs)).2.1.trans rfl
theorem r0_90 : (y0_46 L xs).2.2.2 90 = lyR none none none false 0 90 := (v0_90 (L := L) (xs := xs)).2.1.trans rfl
theorem r0_91 : (y0_46 L xs).2.2.2 91 = lyR none none none false 0 91 := (v0_91 (L := L) (xs := xs)).2.1.trans rfl
theorem r0_92 : (y0_46 L xs).2.2.2 92 = lyR none none none false 0 92 := (v0_92 (L := L) (xs := xs)).2.1.trans rfl
theorem r0_93 : (y0_46 L xs).2.2.2 93 = lyR none none none false 0 93 := (v0_93 (L := L) (xs := xs)).2.1.trans rfl
theorem r0_94 : (y0_46 L xs).2.2.2 94 = lyR none none none false 0 94 := (v0_94 (L := L) (xs := xs)).2.1.trans rfl
theorem r0_95 : (y0_46 L xs).2.2.2 95 = lyR none none none false 0 95 := (v0_95 (L := L) (xs := xs)).2.1.trans rfl
theorem r0_96 : (y0_46 L xs).2.2.2 96 = lyR none none none false 0 96 := (v0_96 (L := L) (xs := xs)).2.1.trans rfl
theorem r0_97 : (y0_46 L xs).2.2.2 97 = lyR none none none false 0 97 := (v0_97 (L := L) (xs := xs)).2.1.trans rfl
theorem y0_sX : (y0_46 L xs) = sX L 0 none none none false (y0_46 L xs).2.1 (y0_46 L xs).2.2.1 := by
  have e1 : (y0_46 L xs).1.2.2 = lySh L 0 := by
    funext i
    by_cases c : i < 98
    · match i, c with
      | 0, _ => exact (v0_0 (L := L) (xs := xs)).1
      | 1, _ => exact (v0_1 (L := L) (xs := xs)).1
      | 2, _ => exact (v0_2 (L := L) (xs := xs)).1
      | 3, _ => exact (v0_3 (L := L) (xs := xs)).1
      | 4, _ => exact (v0_4 (L := L) (xs := xs)).1
      | 5, _ => exact (v0_5 (L := L) (xs := xs)).1
      | 6, _ => exact (v0_6 (L := L) (xs := xs)).1
      | 7, _ => exact (v0_7 (L := L) (xs := xs)).1
      | 8, _ => exact (v0_8 (L := L) (xs := xs)).1
      | 9, _ => exact (v0_9 (L := L) (xs := xs)).1
      | 10, _ => exact (v0_10 (L := L) (xs := xs)).1
      | 11, _ => exact (v0_11 (L := L) (xs := xs)).1
      | 12, _ => exact (v0_12 (L := L) (xs := xs)).1
      | 13, _ => exact (v0_13 (L := L) (xs := xs)).1
      | 14, _ => exact (v0_14 (L := L) (xs := xs)).1
      | 15, _ => exact (v0_15 (L := L) (xs := xs)).1
      | 16, _ => exact (v0_16 (L := L) (xs := xs)).1
      | 17, _ => exact (v0_17 (L := L) (xs := xs)).1
      | 18, _ => exact (v0_18 (L := L) (xs := xs)).1
      | 19, _ => exact (v0_19 (L := L) (xs := xs)).1
      | 20, _ => exact (v0_20 (L := L) (xs := xs)).1
      | 21, _ => exact (v0_21 (L := L) (xs := xs)).1
      | 22, _ => exact (v0_22 (L := L) (xs := xs)).1
      | 23, _ => exact (v0_23 (L := L) (xs := xs)).1
      | 24, _ => exact (v0_24 (L := L) (xs := xs)).1
      | 25, _ => exact (v0_25 (L := L) (xs := xs)).1
      | 26, _ => exact (v0_26 (L := L) (xs := xs)).1
      | 27, _ => exact (v0_27 (L := L) (xs := xs)).1
      | 28, _ => exact (v0_28 (L := L) (xs := xs)).1
      | 29, _ => exact (v0_29 (L := L) (xs := xs)).1
      | 30, _ => exact (v0_30 (L := L) (xs := xs)).1
      | 31, _ => exact (v0_31 (L := L) (xs := xs)).1
      | 32, _ => exact (v0_32 (L := L) (xs := xs)).1
      | 33, _ => exact (v0_33 (L := L) (xs := xs)).1
      | 34, _ => exact (v0_34 (L := L) (xs := xs)).1
      | 35, _ => exact (v0_35 (L := L) (xs := xs)).1
      | 36, _ => exact (v0_36 (L := L) (xs := xs)).1
      | 37, _ => exact (v0_37 (L := L) (xs := xs)).1
      | 38, _ => exact (v0_38 (L := L) (xs := xs)).1
      | 39, _ => exact (v0_39 (L := L) (xs := xs)).1
      | 40, _ => exact (v0_40 (L := L) (xs := xs)).1
      | 41, _ => exact (v0_41 (L := L) (xs := xs)).1
      | 42, _ => exact (v0_42 (L := L) (xs := xs)).1
      | 43, _ => exact (v0_43 (L := L) (xs := xs)).1
      | 44, _ => exact (v0_44 (L := L) (xs := xs)).1
      | 45, _ => exact (v0_45 (L := L) (xs := xs)).1
      | 46, _ => exact (v0_46 (L := L) (xs := xs)).1
      | 47, _ => exact (v0_47 (L := L) (xs := xs)).1
      | 48, _ => exact (v0_48 (L := L) (xs := xs)).1
      | 49, _ => exact (v0_49 (L := L) (xs := xs)).1
      | 50, _ => exact (v0_50 (L := L) (xs := xs)).1
      | 51, _ => exact (v0_51 (L := L) (xs := xs)).1
      | 52, _ => exact (v0_52 (L := L) (xs := xs)).1
      | 53, _ => exact (v0_53 (L := L) (xs := xs)).1
      | 54, _ => exact (v0_54 (L := L) (xs := xs)).1
      | 55, _ => exact (v0_55 (L := L) (xs := xs)).1
      | 56, _ => exact (v0_56 (L := L) (xs := xs)).1
      | 57, _ => exact (v0_57 (L := L) (xs := xs)).1
      | 58, _ => exact (v0_58 (L := L) (xs := xs)).1
      | 59, _ => exact (v0_59 (L := L) (xs := xs)).1
      | 60, _ => exact (v0_60 (L := L) (xs := xs)).1
      | 61, _ => exact (v0_61 (L := L) (xs := xs)).1
      | 62, _ => exact (v0_62 (L := L) (xs := xs)).1
      | 63, _ => exact (v0_63 (L := L) (xs := xs)).1
      | 64, _ => exact (v0_64 (L := L) (xs := xs)).1
      | 65, _ => exact (v0_65 (L := L) (xs := xs)).1
      | 66, _ => exact (v0_66 (L := L) (xs := xs)).1
      | 67, _ => exact (v0_67 (L := L) (xs := xs)).1
      | 68, _ => exact (v0_68 (L := L) (xs := xs)).1
      | 69, _ => exact (v0_69 (L := L) (xs := xs)).1
      | 70, _ => exact (v0_70 (L := L) (xs := xs)).1
      | 71, _ => exact (v0_71 (L := L) (xs := xs)).1
      | 72, _ => exact (v0_72 (L := L) (xs := xs)).1
      | 73, _ => exact (v0_73 (L := L) (xs := xs)).1
      | 74, _ => exact (v0_74 (L := L) (xs := xs)).1
      | 75, _ => exact (v0_75 (L := L) (xs := xs)).1
      | 76, _ => exact (v0_76 (L := L) (xs := xs)).1
      | 77, _ => exact (v0_77 (L := L) (xs := xs)).1
      | 78, _ => exact (v0_78 (L := L) (xs := xs)).1
      | 79, _ => exact (v0_79 (L := L) (xs := xs)).1
      | 80, _ => exact (v0_80 (L := L) (xs := xs)).1
      | 81, _ => exact (v0_81 (L := L) (xs := xs)).1
      | 82, _ => exact (v0_82 (L := L) (xs := xs)).1
      | 83, _ => exact (v0_83 (L := L) (xs := xs)).1
      | 84, _ => exact (v0_84 (L := L) (xs := xs)).1
      | 85, _ => exact (v0_85 (L := L) (xs := xs)).1
      | 86, _ => exact (v0_86 (L := L) (xs := xs)).1
      | 87, _ => exact (v0_87 (L := L) (xs := xs)).1
      | 88, _ => exact (v0_88 (L := L) (xs := xs)).1
      | 89, _ => exact (v0_89 (L := L) (xs := xs)).1
      | 90, _ => exact (v0_90 (L := L) (xs := xs)).1
      | 91, _ => exact (v0_91 (L := L) (xs := xs)).1
      | 92, _ => exact (v0_92 (L := L) (xs := xs)).1
      | 93, _ => exact (v0_93 (L := L) (xs := xs)).1
      | 94, _ => exact (v0_94 (L := L) (xs := xs)).1
      | 95, _ => exact (v0_95 (L := L) (xs := xs)).1
      | 96, _ => exact (v0_96 (L := L) (xs := xs)).1
      | 97, _ => exact (v0_97 (L := L) (xs := xs)).1
      | n + 98, c => exact absurd c (by omega)
    · exact ((g0_46 (L := L) (xs := xs)).2.2.2.1 i (by omega)).1.trans (lySh_hi (by omega)).symm
  have e2 : (y0_46 L xs).2.2.2 = lyR none none none false 0 := by
    funext i
    by_cases c : i < 98
    · match i, c with
      | 0, _ => exact r0_0
      | 1, _ => exact r0_1
      | 2, _ => exact r0_2
      | 3, _ => exact r0_3
      | 4, _ => exact r0_4
      | 5, _ => exact r0_5
      | 6, _ => exact r0_6
      | 7, _ => exact r0_7
      | 8, _ => exact r0_8
      | 9, _ => exact r0_9
      | 10, _ => exact r0_10
      | 11, _ => exact r0_11
      | 12, _ => exact r0_12
      | 13, _ => exact r0_13
      | 14, _ => exact r0_14
      | 15, _ => exact r0_15
      | 16, _ => exact r0_16
      | 17, _ => exact r0_17
      | 18, _ => exact r0_18
      | 19, _ => exact r0_19
      | 20, _ => exact r0_20
      | 21, _ => exact r0_21
      | 22, _ => exact r0_22
      | 23, _ => exact r0_23
      | 24, _ => exact r0_24
      | 25, _ => exact r0_25
      | 26, _ => exact r0_26
      | 27, _ => exact r0_27
      | 28, _ => exact r0_28
      | 29, _ => exact r0_29
      | 30, _ => exact r0_30
      | 31, _ => exact r0_31
      | 32, _ => exact r0_32
      | 33, _ => exact r0_33
      | 34, _ => exact r0_34
      | 35, _ => exact r0_35
      | 36, _ => exact r0_36
      | 37, _ => exact r0_37
      | 38, _ => exact r0_38
      | 39, _ => exact r0_39
      | 40, _ => exact r0_40
      | 41, _ => exact r0_41
      | 42, _ => exact r0_42
      | 43, _ => exact r0_43
      | 44, _ => exact r0_44
      | 45, _ => exact r0_45
      | 46, _ => exact r0_46
      | 47, _ => exact r0_47
      | 48, _ => exact r0_48
      | 49, _ => exact r0_49
      | 50, _ => exact r0_50
      | 51, _ => exact r0_51
      | 52, _ => exact r0_52
      | 53, _ => exact r0_53
      | 54, _ => exact r0_54
      | 55, _ => exact r0_55
      | 56, _ => exact r0_56
      | 57, _ => exact r0_57
      | 58, _ => exact r0_58
      | 59, _ => exact r0_59
      | 60, _ => exact r0_60
      | 61, _ => exact r0_61
      | 62, _ => exact r0_62
      | 63, _ => exact r0_63
      | 64, _ => exact r0_64
      | 65, _ => exact r0_65
      | 66, _ => exact r0_66
      | 67, _ => exact r0_67
      | 68, _ => exact r0_68
      | 69, _ => exact r0_69
      | 70, _ => exact r0_70
      | 71, _ => exact r0_71
      | 72, _ => exact r0_72
      | 73, _ => exact r0_73
      | 74, _ => exact r0_74
      | 75, _ => exact r0_75
      | 76, _ => exact r0_76
      | 77, _ => exact r0_77
      | 78, _ => exact r0_78
      | 79, _ => exact r0_79
      | 80, _ => exact r0_80
      | 81, _ => exact r0_81
      | 82, _ => exact r0_82
      | 83, _ => exact r0_83
      | 84, _ => exact r0_84
      | 85, _ => exact r0_85
      | 86, _ => exact r0_86
      | 87, _ => exact r0_87
      | 88, _ => exact r0_88
      | 89, _ => exact r0_89
      | 90, _ => exact r0_90
      | 91, _ => exact r0_91
      | 92, _ => exact r0_92
      | 93, _ => exact r0_93
      | 94, _ => exact r0_94
      | 95, _ => exact r0_95
      | 96, _ => exact r0_96
      | 97, _ => exact r0_97
      | n + 98, c => exact absurd c (by omega)
    · exact ((g0_46 (L := L) (xs := xs)).2.2.2.1 i (by omega)).2.trans (lyR_hi (by omega)).symm
  have e3 : (y0_46 L xs).1.1 = 98 := (g0_46 (L := L) (xs := xs)).1
  show ((y0_46 L xs).1, (y0_46 L xs).2.1, (y0_46 L xs).2.2.1, (y0_46 L xs).2.2.2) = (lyMe L 0, (y0_46 L xs).2.1, (y0_46 L xs).2.2.1, lyR none none none false 0)
  rw [e2]
  congr 1
  show ((y0_46 L xs).1.1, (y0_46 L xs).1.2.1, (y0_46 L xs).1.2.2) = (98 + 7 * 0, 14409 + 386 * 0, lySh L 0)
  rw [e1, e3, y0_n]
end ST
