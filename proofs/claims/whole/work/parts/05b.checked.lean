/-! the rows of the program, checked by the kernel -/
theorem mp_1_0 : mvOkR 1 0 120 = true := by decide +kernel
theorem ml_1 : ∀ p, 120 ≤ p → mvC 1 p = mvNo := fun p h => (show mc_1 p = mvNo by unfold mc_1; rw [Nat.ble_eq_true_of_le h]; rfl)
theorem mk_1 : ∀ p, mvOk 1 p = true := fun p => if h0 : p < 120 then mvOkR_at mp_1_0 p (by omega) (by omega) else mvOk_no (ml_1 p (by omega))
theorem mt_1 : mvOkT 1 = true := by decide +kernel
theorem mp_2_0 : mvOkR 2 0 83 = true := by decide +kernel
theorem ml_2 : ∀ p, 83 ≤ p → mvC 2 p = mvNo := fun p h => (show mc_2 p = mvNo by unfold mc_2; rw [Nat.ble_eq_true_of_le h]; rfl)
theorem mk_2 : ∀ p, mvOk 2 p = true := fun p => if h0 : p < 83 then mvOkR_at mp_2_0 p (by omega) (by omega) else mvOk_no (ml_2 p (by omega))
theorem mt_2 : mvOkT 2 = true := by decide +kernel
theorem mp_3_0 : mvOkR 3 0 25 = true := by decide +kernel
theorem ml_3 : ∀ p, 25 ≤ p → mvC 3 p = mvNo := fun p h => (show mc_3 p = mvNo by unfold mc_3; rw [Nat.ble_eq_true_of_le h]; rfl)
theorem mk_3 : ∀ p, mvOk 3 p = true := fun p => if h0 : p < 25 then mvOkR_at mp_3_0 p (by omega) (by omega) else mvOk_no (ml_3 p (by omega))
theorem mt_3 : mvOkT 3 = true := by decide +kernel
theorem mp_4_0 : mvOkR 4 0 120 = true := by decide +kernel
theorem mp_4_1 : mvOkR 4 120 22 = true := by decide +kernel
theorem ml_4 : ∀ p, 142 ≤ p → mvC 4 p = mvNo := fun p h => (show mc_4 p = mvNo by unfold mc_4; rw [Nat.ble_eq_true_of_le h]; rfl)
theorem mk_4 : ∀ p, mvOk 4 p = true := fun p => if h0 : p < 120 then mvOkR_at mp_4_0 p (by omega) (by omega) else if h1 : p < 142 then mvOkR_at mp_4_1 p (by omega) (by omega) else mvOk_no (ml_4 p (by omega))
theorem mt_4 : mvOkT 4 = true := by decide +kernel
theorem mp_5_0 : mvOkR 5 0 71 = true := by decide +kernel
theorem ml_5 : ∀ p, 71 ≤ p → mvC 5 p = mvNo := fun p h => (show mc_5 p = mvNo by unfold mc_5; rw [Nat.ble_eq_true_of_le h]; rfl)
theorem mk_5 : ∀ p, mvOk 5 p = true := fun p => if h0 : p < 71 then mvOkR_at mp_5_0 p (by omega) (by omega) else mvOk_no (ml_5 p (by omega))
theorem mt_5 : mvOkT 5 = true := by decide +kernel
theorem mp_6_0 : mvOkR 6 0 24 = true := by decide +kernel
theorem ml_6 : ∀ p, 24 ≤ p → mvC 6 p = mvNo := fun p h => (show mc_6 p = mvNo by unfold mc_6; rw [Nat.ble_eq_true_of_le h]; rfl)
theorem mk_6 : ∀ p, mvOk 6 p = true := fun p => if h0 : p < 24 then mvOkR_at mp_6_0 p (by omega) (by omega) else mvOk_no (ml_6 p (by omega))
theorem mt_6 : mvOkT 6 = true := by decide +kernel
theorem mp_7_0 : mvOkR 7 0 21 = true := by decide +kernel
theorem ml_7 : ∀ p, 21 ≤ p → mvC 7 p = mvNo := fun p h => (show mc_7 p = mvNo by unfold mc_7; rw [Nat.ble_eq_true_of_le h]; rfl)
theorem mk_7 : ∀ p, mvOk 7 p = true := fun p => if h0 : p < 21 then mvOkR_at mp_7_0 p (by omega) (by omega) else mvOk_no (ml_7 p (by omega))
theorem mt_7 : mvOkT 7 = true := by decide +kernel
theorem mp_8_0 : mvOkR 8 0 99 = true := by decide +kernel
theorem ml_8 : ∀ p, 99 ≤ p → mvC 8 p = mvNo := fun p h => (show mc_8 p = mvNo by unfold mc_8; rw [Nat.ble_eq_true_of_le h]; rfl)
theorem mk_8 : ∀ p, mvOk 8 p = true := fun p => if h0 : p < 99 then mvOkR_at mp_8_0 p (by omega) (by omega) else mvOk_no (ml_8 p (by omega))
theorem mt_8 : mvOkT 8 = true := by decide +kernel
theorem mp_9_0 : mvOkR 9 0 11 = true := by decide +kernel
theorem ml_9 : ∀ p, 11 ≤ p → mvC 9 p = mvNo := fun p h => (show mc_9 p = mvNo by unfold mc_9; rw [Nat.ble_eq_true_of_le h]; rfl)
theorem mk_9 : ∀ p, mvOk 9 p = true := fun p => if h0 : p < 11 then mvOkR_at mp_9_0 p (by omega) (by omega) else mvOk_no (ml_9 p (by omega))
theorem mt_9 : mvOkT 9 = true := by decide +kernel
theorem mp_10_0 : mvOkR 10 0 15 = true := by decide +kernel
theorem ml_10 : ∀ p, 15 ≤ p → mvC 10 p = mvNo := fun p h => (show mc_10 p = mvNo by unfold mc_10; rw [Nat.ble_eq_true_of_le h]; rfl)
theorem mk_10 : ∀ p, mvOk 10 p = true := fun p => if h0 : p < 15 then mvOkR_at mp_10_0 p (by omega) (by omega) else mvOk_no (ml_10 p (by omega))
theorem mt_10 : mvOkT 10 = true := by decide +kernel
theorem mp_11_0 : mvOkR 11 0 25 = true := by decide +kernel
theorem ml_11 : ∀ p, 25 ≤ p → mvC 11 p = mvNo := fun p h => (show mc_11 p = mvNo by unfold mc_11; rw [Nat.ble_eq_true_of_le h]; rfl)
theorem mk_11 : ∀ p, mvOk 11 p = true := fun p => if h0 : p < 25 then mvOkR_at mp_11_0 p (by omega) (by omega) else mvOk_no (ml_11 p (by omega))
theorem mt_11 : mvOkT 11 = true := by decide +kernel
theorem mp_12_0 : mvOkR 12 0 19 = true := by decide +kernel
theorem ml_12 : ∀ p, 19 ≤ p → mvC 12 p = mvNo := fun p h => (show mc_12 p = mvNo by unfold mc_12; rw [Nat.ble_eq_true_of_le h]; rfl)
theorem mk_12 : ∀ p, mvOk 12 p = true := fun p => if h0 : p < 19 then mvOkR_at mp_12_0 p (by omega) (by omega) else mvOk_no (ml_12 p (by omega))
theorem mt_12 : mvOkT 12 = true := by decide +kernel
theorem mp_13_0 : mvOkR 13 0 15 = true := by decide +kernel
theorem ml_13 : ∀ p, 15 ≤ p → mvC 13 p = mvNo := fun p h => (show mc_13 p = mvNo by unfold mc_13; rw [Nat.ble_eq_true_of_le h]; rfl)
theorem mk_13 : ∀ p, mvOk 13 p = true := fun p => if h0 : p < 15 then mvOkR_at mp_13_0 p (by omega) (by omega) else mvOk_no (ml_13 p (by omega))
theorem mt_13 : mvOkT 13 = true := by decide +kernel
theorem mp_14_0 : mvOkR 14 0 10 = true := by decide +kernel
theorem ml_14 : ∀ p, 10 ≤ p → mvC 14 p = mvNo := fun p h => (show mc_14 p = mvNo by unfold mc_14; rw [Nat.ble_eq_true_of_le h]; rfl)
theorem mk_14 : ∀ p, mvOk 14 p = true := fun p => if h0 : p < 10 then mvOkR_at mp_14_0 p (by omega) (by omega) else mvOk_no (ml_14 p (by omega))
theorem mt_14 : mvOkT 14 = true := by decide +kernel
theorem mp_15_0 : mvOkR 15 0 18 = true := by decide +kernel
theorem ml_15 : ∀ p, 18 ≤ p → mvC 15 p = mvNo := fun p h => (show mc_15 p = mvNo by unfold mc_15; rw [Nat.ble_eq_true_of_le h]; rfl)
theorem mk_15 : ∀ p, mvOk 15 p = true := fun p => if h0 : p < 18 then mvOkR_at mp_15_0 p (by omega) (by omega) else mvOk_no (ml_15 p (by omega))
theorem mt_15 : mvOkT 15 = true := by decide +kernel
theorem mp_16_0 : mvOkR 16 0 30 = true := by decide +kernel
theorem ml_16 : ∀ p, 30 ≤ p → mvC 16 p = mvNo := fun p h => (show mc_16 p = mvNo by unfold mc_16; rw [Nat.ble_eq_true_of_le h]; rfl)
theorem mk_16 : ∀ p, mvOk 16 p = true := fun p => if h0 : p < 30 then mvOkR_at mp_16_0 p (by omega) (by omega) else mvOk_no (ml_16 p (by omega))
theorem mt_16 : mvOkT 16 = true := by decide +kernel
theorem mp_17_0 : mvOkR 17 0 47 = true := by decide +kernel
theorem ml_17 : ∀ p, 47 ≤ p → mvC 17 p = mvNo := fun p h => (show mc_17 p = mvNo by unfold mc_17; rw [Nat.ble_eq_true_of_le h]; rfl)
theorem mk_17 : ∀ p, mvOk 17 p = true := fun p => if h0 : p < 47 then mvOkR_at mp_17_0 p (by omega) (by omega) else mvOk_no (ml_17 p (by omega))
theorem mt_17 : mvOkT 17 = true := by decide +kernel
theorem mp_18_0 : mvOkR 18 0 24 = true := by decide +kernel
theorem ml_18 : ∀ p, 24 ≤ p → mvC 18 p = mvNo := fun p h => (show mc_18 p = mvNo by unfold mc_18; rw [Nat.ble_eq_true_of_le h]; rfl)
theorem mk_18 : ∀ p, mvOk 18 p = true := fun p => if h0 : p < 24 then mvOkR_at mp_18_0 p (by omega) (by omega) else mvOk_no (ml_18 p (by omega))
theorem mt_18 : mvOkT 18 = true := by decide +kernel
theorem mp_19_0 : mvOkR 19 0 54 = true := by decide +kernel
theorem ml_19 : ∀ p, 54 ≤ p → mvC 19 p = mvNo := fun p h => (show mc_19 p = mvNo by unfold mc_19; rw [Nat.ble_eq_true_of_le h]; rfl)
theorem mk_19 : ∀ p, mvOk 19 p = true := fun p => if h0 : p < 54 then mvOkR_at mp_19_0 p (by omega) (by omega) else mvOk_no (ml_19 p (by omega))
theorem mt_19 : mvOkT 19 = true := by decide +kernel
theorem mp_20_0 : mvOkR 20 0 16 = true := by decide +kernel
theorem ml_20 : ∀ p, 16 ≤ p → mvC 20 p = mvNo := fun p h => (show mc_20 p = mvNo by unfold mc_20; rw [Nat.ble_eq_true_of_le h]; rfl)
theorem mk_20 : ∀ p, mvOk 20 p = true := fun p => if h0 : p < 16 then mvOkR_at mp_20_0 p (by omega) (by omega) else mvOk_no (ml_20 p (by omega))
theorem mt_20 : mvOkT 20 = true := by decide +kernel
theorem mp_21_0 : mvOkR 21 0 15 = true := by decide +kernel
theorem ml_21 : ∀ p, 15 ≤ p → mvC 21 p = mvNo := fun p h => (show mc_21 p = mvNo by unfold mc_21; rw [Nat.ble_eq_true_of_le h]; rfl)
theorem mk_21 : ∀ p, mvOk 21 p = true := fun p => if h0 : p < 15 then mvOkR_at mp_21_0 p (by omega) (by omega) else mvOk_no (ml_21 p (by omega))
theorem mt_21 : mvOkT 21 = true := by decide +kernel
theorem mp_22_0 : mvOkR 22 0 22 = true := by decide +kernel
theorem ml_22 : ∀ p, 22 ≤ p → mvC 22 p = mvNo := fun p h => (show mc_22 p = mvNo by unfold mc_22; rw [Nat.ble_eq_true_of_le h]; rfl)
theorem mk_22 : ∀ p, mvOk 22 p = true := fun p => if h0 : p < 22 then mvOkR_at mp_22_0 p (by omega) (by omega) else mvOk_no (ml_22 p (by omega))
theorem mt_22 : mvOkT 22 = true := by decide +kernel
theorem mp_23_0 : mvOkR 23 0 36 = true := by decide +kernel
theorem ml_23 : ∀ p, 36 ≤ p → mvC 23 p = mvNo := fun p h => (show mc_23 p = mvNo by unfold mc_23; rw [Nat.ble_eq_true_of_le h]; rfl)
theorem mk_23 : ∀ p, mvOk 23 p = true := fun p => if h0 : p < 36 then mvOkR_at mp_23_0 p (by omega) (by omega) else mvOk_no (ml_23 p (by omega))
theorem mt_23 : mvOkT 23 = true := by decide +kernel
theorem mp_24_0 : mvOkR 24 0 22 = true := by decide +kernel
theorem ml_24 : ∀ p, 22 ≤ p → mvC 24 p = mvNo := fun p h => (show mc_24 p = mvNo by unfold mc_24; rw [Nat.ble_eq_true_of_le h]; rfl)
theorem mk_24 : ∀ p, mvOk 24 p = true := fun p => if h0 : p < 22 then mvOkR_at mp_24_0 p (by omega) (by omega) else mvOk_no (ml_24 p (by omega))
theorem mt_24 : mvOkT 24 = true := by decide +kernel
theorem mp_25_0 : mvOkR 25 0 34 = true := by decide +kernel
theorem ml_25 : ∀ p, 34 ≤ p → mvC 25 p = mvNo := fun p h => (show mc_25 p = mvNo by unfold mc_25; rw [Nat.ble_eq_true_of_le h]; rfl)
theorem mk_25 : ∀ p, mvOk 25 p = true := fun p => if h0 : p < 34 then mvOkR_at mp_25_0 p (by omega) (by omega) else mvOk_no (ml_25 p (by omega))
theorem mt_25 : mvOkT 25 = true := by decide +kernel
theorem mp_26_0 : mvOkR 26 0 19 = true := by decide +kernel
theorem ml_26 : ∀ p, 19 ≤ p → mvC 26 p = mvNo := fun p h => (show mc_26 p = mvNo by unfold mc_26; rw [Nat.ble_eq_true_of_le h]; rfl)
theorem mk_26 : ∀ p, mvOk 26 p = true := fun p => if h0 : p < 19 then mvOkR_at mp_26_0 p (by omega) (by omega) else mvOk_no (ml_26 p (by omega))
theorem mt_26 : mvOkT 26 = true := by decide +kernel
theorem mp_27_0 : mvOkR 27 0 11 = true := by decide +kernel
theorem ml_27 : ∀ p, 11 ≤ p → mvC 27 p = mvNo := fun p h => (show mc_27 p = mvNo by unfold mc_27; rw [Nat.ble_eq_true_of_le h]; rfl)
theorem mk_27 : ∀ p, mvOk 27 p = true := fun p => if h0 : p < 11 then mvOkR_at mp_27_0 p (by omega) (by omega) else mvOk_no (ml_27 p (by omega))
theorem mt_27 : mvOkT 27 = true := by decide +kernel
theorem mp_28_0 : mvOkR 28 0 37 = true := by decide +kernel
theorem ml_28 : ∀ p, 37 ≤ p → mvC 28 p = mvNo := fun p h => (show mc_28 p = mvNo by unfold mc_28; rw [Nat.ble_eq_true_of_le h]; rfl)
theorem mk_28 : ∀ p, mvOk 28 p = true := fun p => if h0 : p < 37 then mvOkR_at mp_28_0 p (by omega) (by omega) else mvOk_no (ml_28 p (by omega))
theorem mt_28 : mvOkT 28 = true := by decide +kernel
theorem mp_29_0 : mvOkR 29 0 32 = true := by decide +kernel
theorem ml_29 : ∀ p, 32 ≤ p → mvC 29 p = mvNo := fun p h => (show mc_29 p = mvNo by unfold mc_29; rw [Nat.ble_eq_true_of_le h]; rfl)
theorem mk_29 : ∀ p, mvOk 29 p = true := fun p => if h0 : p < 32 then mvOkR_at mp_29_0 p (by omega) (by omega) else mvOk_no (ml_29 p (by omega))
theorem mt_29 : mvOkT 29 = true := by decide +kernel
theorem mp_30_0 : mvOkR 30 0 27 = true := by decide +kernel
theorem ml_30 : ∀ p, 27 ≤ p → mvC 30 p = mvNo := fun p h => (show mc_30 p = mvNo by unfold mc_30; rw [Nat.ble_eq_true_of_le h]; rfl)
theorem mk_30 : ∀ p, mvOk 30 p = true := fun p => if h0 : p < 27 then mvOkR_at mp_30_0 p (by omega) (by omega) else mvOk_no (ml_30 p (by omega))
theorem mt_30 : mvOkT 30 = true := by decide +kernel
theorem mp_31_0 : mvOkR 31 0 14 = true := by decide +kernel
theorem ml_31 : ∀ p, 14 ≤ p → mvC 31 p = mvNo := fun p h => (show mc_31 p = mvNo by unfold mc_31; rw [Nat.ble_eq_true_of_le h]; rfl)
theorem mk_31 : ∀ p, mvOk 31 p = true := fun p => if h0 : p < 14 then mvOkR_at mp_31_0 p (by omega) (by omega) else mvOk_no (ml_31 p (by omega))
theorem mt_31 : mvOkT 31 = true := by decide +kernel
theorem mp_32_0 : mvOkR 32 0 57 = true := by decide +kernel
theorem ml_32 : ∀ p, 57 ≤ p → mvC 32 p = mvNo := fun p h => (show mc_32 p = mvNo by unfold mc_32; rw [Nat.ble_eq_true_of_le h]; rfl)
theorem mk_32 : ∀ p, mvOk 32 p = true := fun p => if h0 : p < 57 then mvOkR_at mp_32_0 p (by omega) (by omega) else mvOk_no (ml_32 p (by omega))
theorem mt_32 : mvOkT 32 = true := by decide +kernel
theorem mp_33_0 : mvOkR 33 0 68 = true := by decide +kernel
theorem ml_33 : ∀ p, 68 ≤ p → mvC 33 p = mvNo := fun p h => (show mc_33 p = mvNo by unfold mc_33; rw [Nat.ble_eq_true_of_le h]; rfl)
theorem mk_33 : ∀ p, mvOk 33 p = true := fun p => if h0 : p < 68 then mvOkR_at mp_33_0 p (by omega) (by omega) else mvOk_no (ml_33 p (by omega))
theorem mt_33 : mvOkT 33 = true := by decide +kernel
theorem mp_34_0 : mvOkR 34 0 50 = true := by decide +kernel
theorem ml_34 : ∀ p, 50 ≤ p → mvC 34 p = mvNo := fun p h => (show mc_34 p = mvNo by unfold mc_34; rw [Nat.ble_eq_true_of_le h]; rfl)
theorem mk_34 : ∀ p, mvOk 34 p = true := fun p => if h0 : p < 50 then mvOkR_at mp_34_0 p (by omega) (by omega) else mvOk_no (ml_34 p (by omega))
theorem mt_34 : mvOkT 34 = true := by decide +kernel
theorem mp_35_0 : mvOkR 35 0 27 = true := by decide +kernel
theorem ml_35 : ∀ p, 27 ≤ p → mvC 35 p = mvNo := fun p h => (show mc_35 p = mvNo by unfold mc_35; rw [Nat.ble_eq_true_of_le h]; rfl)
theorem mk_35 : ∀ p, mvOk 35 p = true := fun p => if h0 : p < 27 then mvOkR_at mp_35_0 p (by omega) (by omega) else mvOk_no (ml_35 p (by omega))
theorem mt_35 : mvOkT 35 = true := by decide +kernel
theorem mp_36_0 : mvOkR 36 0 100 = true := by decide +kernel
theorem ml_36 : ∀ p, 100 ≤ p → mvC 36 p = mvNo := fun p h => (show mc_36 p = mvNo by unfold mc_36; rw [Nat.ble_eq_true_of_le h]; rfl)
theorem mk_36 : ∀ p, mvOk 36 p = true := fun p => if h0 : p < 100 then mvOkR_at mp_36_0 p (by omega) (by omega) else mvOk_no (ml_36 p (by omega))
theorem mt_36 : mvOkT 36 = true := by decide +kernel
theorem mp_37_0 : mvOkR 37 0 62 = true := by decide +kernel
theorem ml_37 : ∀ p, 62 ≤ p → mvC 37 p = mvNo := fun p h => (show mc_37 p = mvNo by unfold mc_37; rw [Nat.ble_eq_true_of_le h]; rfl)
theorem mk_37 : ∀ p, mvOk 37 p = true := fun p => if h0 : p < 62 then mvOkR_at mp_37_0 p (by omega) (by omega) else mvOk_no (ml_37 p (by omega))
theorem mt_37 : mvOkT 37 = true := by decide +kernel
theorem mp_38_0 : mvOkR 38 0 79 = true := by decide +kernel
theorem ml_38 : ∀ p, 79 ≤ p → mvC 38 p = mvNo := fun p h => (show mc_38 p = mvNo by unfold mc_38; rw [Nat.ble_eq_true_of_le h]; rfl)
theorem mk_38 : ∀ p, mvOk 38 p = true := fun p => if h0 : p < 79 then mvOkR_at mp_38_0 p (by omega) (by omega) else mvOk_no (ml_38 p (by omega))
theorem mt_38 : mvOkT 38 = true := by decide +kernel
theorem mp_39_0 : mvOkR 39 0 38 = true := by decide +kernel
theorem ml_39 : ∀ p, 38 ≤ p → mvC 39 p = mvNo := fun p h => (show mc_39 p = mvNo by unfold mc_39; rw [Nat.ble_eq_true_of_le h]; rfl)
theorem mk_39 : ∀ p, mvOk 39 p = true := fun p => if h0 : p < 38 then mvOkR_at mp_39_0 p (by omega) (by omega) else mvOk_no (ml_39 p (by omega))
theorem mt_39 : mvOkT 39 = true := by decide +kernel
theorem mp_40_0 : mvOkR 40 0 115 = true := by decide +kernel
theorem ml_40 : ∀ p, 115 ≤ p → mvC 40 p = mvNo := fun p h => (show mc_40 p = mvNo by unfold mc_40; rw [Nat.ble_eq_true_of_le h]; rfl)
theorem mk_40 : ∀ p, mvOk 40 p = true := fun p => if h0 : p < 115 then mvOkR_at mp_40_0 p (by omega) (by omega) else mvOk_no (ml_40 p (by omega))
theorem mt_40 : mvOkT 40 = true := by decide +kernel
theorem mp_41_0 : mvOkR 41 0 18 = true := by decide +kernel
theorem ml_41 : ∀ p, 18 ≤ p → mvC 41 p = mvNo := fun p h => (show mc_41 p = mvNo by unfold mc_41; rw [Nat.ble_eq_true_of_le h]; rfl)
theorem mk_41 : ∀ p, mvOk 41 p = true := fun p => if h0 : p < 18 then mvOkR_at mp_41_0 p (by omega) (by omega) else mvOk_no (ml_41 p (by omega))
theorem mt_41 : mvOkT 41 = true := by decide +kernel
theorem mp_42_0 : mvOkR 42 0 30 = true := by decide +kernel
theorem ml_42 : ∀ p, 30 ≤ p → mvC 42 p = mvNo := fun p h => (show mc_42 p = mvNo by unfold mc_42; rw [Nat.ble_eq_true_of_le h]; rfl)
theorem mk_42 : ∀ p, mvOk 42 p = true := fun p => if h0 : p < 30 then mvOkR_at mp_42_0 p (by omega) (by omega) else mvOk_no (ml_42 p (by omega))
theorem mt_42 : mvOkT 42 = true := by decide +kernel
theorem mp_43_0 : mvOkR 43 0 84 = true := by decide +kernel
theorem ml_43 : ∀ p, 84 ≤ p → mvC 43 p = mvNo := fun p h => (show mc_43 p = mvNo by unfold mc_43; rw [Nat.ble_eq_true_of_le h]; rfl)
theorem mk_43 : ∀ p, mvOk 43 p = true := fun p => if h0 : p < 84 then mvOkR_at mp_43_0 p (by omega) (by omega) else mvOk_no (ml_43 p (by omega))
theorem mt_43 : mvOkT 43 = true := by decide +kernel
theorem mp_44_0 : mvOkR 44 0 75 = true := by decide +kernel
theorem ml_44 : ∀ p, 75 ≤ p → mvC 44 p = mvNo := fun p h => (show mc_44 p = mvNo by unfold mc_44; rw [Nat.ble_eq_true_of_le h]; rfl)
theorem mk_44 : ∀ p, mvOk 44 p = true := fun p => if h0 : p < 75 then mvOkR_at mp_44_0 p (by omega) (by omega) else mvOk_no (ml_44 p (by omega))
theorem mt_44 : mvOkT 44 = true := by decide +kernel
theorem mp_45_0 : mvOkR 45 0 43 = true := by decide +kernel
theorem ml_45 : ∀ p, 43 ≤ p → mvC 45 p = mvNo := fun p h => (show mc_45 p = mvNo by unfold mc_45; rw [Nat.ble_eq_true_of_le h]; rfl)
theorem mk_45 : ∀ p, mvOk 45 p = true := fun p => if h0 : p < 43 then mvOkR_at mp_45_0 p (by omega) (by omega) else mvOk_no (ml_45 p (by omega))
theorem mt_45 : mvOkT 45 = true := by decide +kernel
theorem mp_46_0 : mvOkR 46 0 18 = true := by decide +kernel
theorem ml_46 : ∀ p, 18 ≤ p → mvC 46 p = mvNo := fun p h => (show mc_46 p = mvNo by unfold mc_46; rw [Nat.ble_eq_true_of_le h]; rfl)
theorem mk_46 : ∀ p, mvOk 46 p = true := fun p => if h0 : p < 18 then mvOkR_at mp_46_0 p (by omega) (by omega) else mvOk_no (ml_46 p (by omega))
theorem mt_46 : mvOkT 46 = true := by decide +kernel
theorem mp_47_0 : mvOkR 47 0 79 = true := by decide +kernel
theorem ml_47 : ∀ p, 79 ≤ p → mvC 47 p = mvNo := fun p h => (show mc_47 p = mvNo by unfold mc_47; rw [Nat.ble_eq_true_of_le h]; rfl)
theorem mk_47 : ∀ p, mvOk 47 p = true := fun p => if h0 : p < 79 then mvOkR_at mp_47_0 p (by omega) (by omega) else mvOk_no (ml_47 p (by omega))
theorem mt_47 : mvOkT 47 = true := by decide +kernel
theorem mp_48_0 : mvOkR 48 0 120 = true := by decide +kernel
theorem mp_48_1 : mvOkR 48 120 3 = true := by decide +kernel
theorem ml_48 : ∀ p, 123 ≤ p → mvC 48 p = mvNo := fun p h => (show mc_48 p = mvNo by unfold mc_48; rw [Nat.ble_eq_true_of_le h]; rfl)
theorem mk_48 : ∀ p, mvOk 48 p = true := fun p => if h0 : p < 120 then mvOkR_at mp_48_0 p (by omega) (by omega) else if h1 : p < 123 then mvOkR_at mp_48_1 p (by omega) (by omega) else mvOk_no (ml_48 p (by omega))
theorem mt_48 : mvOkT 48 = true := by decide +kernel
theorem mp_49_0 : mvOkR 49 0 7 = true := by decide +kernel
theorem ml_49 : ∀ p, 7 ≤ p → mvC 49 p = mvNo := fun p h => (show mc_49 p = mvNo by unfold mc_49; rw [Nat.ble_eq_true_of_le h]; rfl)
theorem mk_49 : ∀ p, mvOk 49 p = true := fun p => if h0 : p < 7 then mvOkR_at mp_49_0 p (by omega) (by omega) else mvOk_no (ml_49 p (by omega))
theorem mt_49 : mvOkT 49 = true := by decide +kernel
theorem mp_50_0 : mvOkR 50 0 37 = true := by decide +kernel
theorem ml_50 : ∀ p, 37 ≤ p → mvC 50 p = mvNo := fun p h => (show mc_50 p = mvNo by unfold mc_50; rw [Nat.ble_eq_true_of_le h]; rfl)
theorem mk_50 : ∀ p, mvOk 50 p = true := fun p => if h0 : p < 37 then mvOkR_at mp_50_0 p (by omega) (by omega) else mvOk_no (ml_50 p (by omega))
theorem mt_50 : mvOkT 50 = true := by decide +kernel
theorem mp_51_0 : mvOkR 51 0 37 = true := by decide +kernel
theorem ml_51 : ∀ p, 37 ≤ p → mvC 51 p = mvNo := fun p h => (show mc_51 p = mvNo by unfold mc_51; rw [Nat.ble_eq_true_of_le h]; rfl)
theorem mk_51 : ∀ p, mvOk 51 p = true := fun p => if h0 : p < 37 then mvOkR_at mp_51_0 p (by omega) (by omega) else mvOk_no (ml_51 p (by omega))
theorem mt_51 : mvOkT 51 = true := by decide +kernel
theorem mp_52_0 : mvOkR 52 0 17 = true := by decide +kernel
theorem ml_52 : ∀ p, 17 ≤ p → mvC 52 p = mvNo := fun p h => (show mc_52 p = mvNo by unfold mc_52; rw [Nat.ble_eq_true_of_le h]; rfl)
theorem mk_52 : ∀ p, mvOk 52 p = true := fun p => if h0 : p < 17 then mvOkR_at mp_52_0 p (by omega) (by omega) else mvOk_no (ml_52 p (by omega))
theorem mt_52 : mvOkT 52 = true := by decide +kernel
theorem mp_53_0 : mvOkR 53 0 33 = true := by decide +kernel
theorem ml_53 : ∀ p, 33 ≤ p → mvC 53 p = mvNo := fun p h => (show mc_53 p = mvNo by unfold mc_53; rw [Nat.ble_eq_true_of_le h]; rfl)
theorem mk_53 : ∀ p, mvOk 53 p = true := fun p => if h0 : p < 33 then mvOkR_at mp_53_0 p (by omega) (by omega) else mvOk_no (ml_53 p (by omega))
theorem mt_53 : mvOkT 53 = true := by decide +kernel
theorem mp_54_0 : mvOkR 54 0 13 = true := by decide +kernel
theorem ml_54 : ∀ p, 13 ≤ p → mvC 54 p = mvNo := fun p h => (show mc_54 p = mvNo by unfold mc_54; rw [Nat.ble_eq_true_of_le h]; rfl)
theorem mk_54 : ∀ p, mvOk 54 p = true := fun p => if h0 : p < 13 then mvOkR_at mp_54_0 p (by omega) (by omega) else mvOk_no (ml_54 p (by omega))
theorem mt_54 : mvOkT 54 = true := by decide +kernel
theorem mp_55_0 : mvOkR 55 0 108 = true := by decide +kernel
theorem ml_55 : ∀ p, 108 ≤ p → mvC 55 p = mvNo := fun p h => (show mc_55 p = mvNo by unfold mc_55; rw [Nat.ble_eq_true_of_le h]; rfl)
theorem mk_55 : ∀ p, mvOk 55 p = true := fun p => if h0 : p < 108 then mvOkR_at mp_55_0 p (by omega) (by omega) else mvOk_no (ml_55 p (by omega))
theorem mt_55 : mvOkT 55 = true := by decide +kernel
theorem mp_56_0 : mvOkR 56 0 18 = true := by decide +kernel
theorem ml_56 : ∀ p, 18 ≤ p → mvC 56 p = mvNo := fun p h => (show mc_56 p = mvNo by unfold mc_56; rw [Nat.ble_eq_true_of_le h]; rfl)
theorem mk_56 : ∀ p, mvOk 56 p = true := fun p => if h0 : p < 18 then mvOkR_at mp_56_0 p (by omega) (by omega) else mvOk_no (ml_56 p (by omega))
theorem mt_56 : mvOkT 56 = true := by decide +kernel
theorem mp_57_0 : mvOkR 57 0 27 = true := by decide +kernel
theorem ml_57 : ∀ p, 27 ≤ p → mvC 57 p = mvNo := fun p h => (show mc_57 p = mvNo by unfold mc_57; rw [Nat.ble_eq_true_of_le h]; rfl)
theorem mk_57 : ∀ p, mvOk 57 p = true := fun p => if h0 : p < 27 then mvOkR_at mp_57_0 p (by omega) (by omega) else mvOk_no (ml_57 p (by omega))
theorem mt_57 : mvOkT 57 = true := by decide +kernel
theorem mp_58_0 : mvOkR 58 0 24 = true := by decide +kernel
theorem ml_58 : ∀ p, 24 ≤ p → mvC 58 p = mvNo := fun p h => (show mc_58 p = mvNo by unfold mc_58; rw [Nat.ble_eq_true_of_le h]; rfl)
theorem mk_58 : ∀ p, mvOk 58 p = true := fun p => if h0 : p < 24 then mvOkR_at mp_58_0 p (by omega) (by omega) else mvOk_no (ml_58 p (by omega))
theorem mt_58 : mvOkT 58 = true := by decide +kernel
theorem mp_59_0 : mvOkR 59 0 13 = true := by decide +kernel
theorem ml_59 : ∀ p, 13 ≤ p → mvC 59 p = mvNo := fun p h => (show mc_59 p = mvNo by unfold mc_59; rw [Nat.ble_eq_true_of_le h]; rfl)
theorem mk_59 : ∀ p, mvOk 59 p = true := fun p => if h0 : p < 13 then mvOkR_at mp_59_0 p (by omega) (by omega) else mvOk_no (ml_59 p (by omega))
theorem mt_59 : mvOkT 59 = true := by decide +kernel
theorem mp_60_0 : mvOkR 60 0 16 = true := by decide +kernel
theorem ml_60 : ∀ p, 16 ≤ p → mvC 60 p = mvNo := fun p h => (show mc_60 p = mvNo by unfold mc_60; rw [Nat.ble_eq_true_of_le h]; rfl)
theorem mk_60 : ∀ p, mvOk 60 p = true := fun p => if h0 : p < 16 then mvOkR_at mp_60_0 p (by omega) (by omega) else mvOk_no (ml_60 p (by omega))
theorem mt_60 : mvOkT 60 = true := by decide +kernel
theorem mp_61_0 : mvOkR 61 0 31 = true := by decide +kernel
theorem ml_61 : ∀ p, 31 ≤ p → mvC 61 p = mvNo := fun p h => (show mc_61 p = mvNo by unfold mc_61; rw [Nat.ble_eq_true_of_le h]; rfl)
theorem mk_61 : ∀ p, mvOk 61 p = true := fun p => if h0 : p < 31 then mvOkR_at mp_61_0 p (by omega) (by omega) else mvOk_no (ml_61 p (by omega))
theorem mt_61 : mvOkT 61 = true := by decide +kernel
theorem mp_62_0 : mvOkR 62 0 24 = true := by decide +kernel
theorem ml_62 : ∀ p, 24 ≤ p → mvC 62 p = mvNo := fun p h => (show mc_62 p = mvNo by unfold mc_62; rw [Nat.ble_eq_true_of_le h]; rfl)
theorem mk_62 : ∀ p, mvOk 62 p = true := fun p => if h0 : p < 24 then mvOkR_at mp_62_0 p (by omega) (by omega) else mvOk_no (ml_62 p (by omega))
theorem mt_62 : mvOkT 62 = true := by decide +kernel
theorem mp_63_0 : mvOkR 63 0 62 = true := by decide +kernel
theorem ml_63 : ∀ p, 62 ≤ p → mvC 63 p = mvNo := fun p h => (show mc_63 p = mvNo by unfold mc_63; rw [Nat.ble_eq_true_of_le h]; rfl)
theorem mk_63 : ∀ p, mvOk 63 p = true := fun p => if h0 : p < 62 then mvOkR_at mp_63_0 p (by omega) (by omega) else mvOk_no (ml_63 p (by omega))
theorem mt_63 : mvOkT 63 = true := by decide +kernel
theorem mp_64_0 : mvOkR 64 0 68 = true := by decide +kernel
theorem ml_64 : ∀ p, 68 ≤ p → mvC 64 p = mvNo := fun p h => (show mc_64 p = mvNo by unfold mc_64; rw [Nat.ble_eq_true_of_le h]; rfl)
theorem mk_64 : ∀ p, mvOk 64 p = true := fun p => if h0 : p < 68 then mvOkR_at mp_64_0 p (by omega) (by omega) else mvOk_no (ml_64 p (by omega))
theorem mt_64 : mvOkT 64 = true := by decide +kernel
theorem mp_65_0 : mvOkR 65 0 68 = true := by decide +kernel
theorem ml_65 : ∀ p, 68 ≤ p → mvC 65 p = mvNo := fun p h => (show mc_65 p = mvNo by unfold mc_65; rw [Nat.ble_eq_true_of_le h]; rfl)
theorem mk_65 : ∀ p, mvOk 65 p = true := fun p => if h0 : p < 68 then mvOkR_at mp_65_0 p (by omega) (by omega) else mvOk_no (ml_65 p (by omega))
theorem mt_65 : mvOkT 65 = true := by decide +kernel
theorem mp_66_0 : mvOkR 66 0 100 = true := by decide +kernel
theorem ml_66 : ∀ p, 100 ≤ p → mvC 66 p = mvNo := fun p h => (show mc_66 p = mvNo by unfold mc_66; rw [Nat.ble_eq_true_of_le h]; rfl)
theorem mk_66 : ∀ p, mvOk 66 p = true := fun p => if h0 : p < 100 then mvOkR_at mp_66_0 p (by omega) (by omega) else mvOk_no (ml_66 p (by omega))
theorem mt_66 : mvOkT 66 = true := by decide +kernel
theorem mp_67_0 : mvOkR 67 0 43 = true := by decide +kernel
theorem ml_67 : ∀ p, 43 ≤ p → mvC 67 p = mvNo := fun p h => (show mc_67 p = mvNo by unfold mc_67; rw [Nat.ble_eq_true_of_le h]; rfl)
theorem mk_67 : ∀ p, mvOk 67 p = true := fun p => if h0 : p < 43 then mvOkR_at mp_67_0 p (by omega) (by omega) else mvOk_no (ml_67 p (by omega))
theorem mt_67 : mvOkT 67 = true := by decide +kernel
theorem mp_68_0 : mvOkR 68 0 17 = true := by decide +kernel
theorem ml_68 : ∀ p, 17 ≤ p → mvC 68 p = mvNo := fun p h => (show mc_68 p = mvNo by unfold mc_68; rw [Nat.ble_eq_true_of_le h]; rfl)
theorem mk_68 : ∀ p, mvOk 68 p = true := fun p => if h0 : p < 17 then mvOkR_at mp_68_0 p (by omega) (by omega) else mvOk_no (ml_68 p (by omega))
theorem mt_68 : mvOkT 68 = true := by decide +kernel
theorem mp_69_0 : mvOkR 69 0 36 = true := by decide +kernel
theorem ml_69 : ∀ p, 36 ≤ p → mvC 69 p = mvNo := fun p h => (show mc_69 p = mvNo by unfold mc_69; rw [Nat.ble_eq_true_of_le h]; rfl)
theorem mk_69 : ∀ p, mvOk 69 p = true := fun p => if h0 : p < 36 then mvOkR_at mp_69_0 p (by omega) (by omega) else mvOk_no (ml_69 p (by omega))
theorem mt_69 : mvOkT 69 = true := by decide +kernel
theorem mp_70_0 : mvOkR 70 0 35 = true := by decide +kernel
theorem ml_70 : ∀ p, 35 ≤ p → mvC 70 p = mvNo := fun p h => (show mc_70 p = mvNo by unfold mc_70; rw [Nat.ble_eq_true_of_le h]; rfl)
theorem mk_70 : ∀ p, mvOk 70 p = true := fun p => if h0 : p < 35 then mvOkR_at mp_70_0 p (by omega) (by omega) else mvOk_no (ml_70 p (by omega))
theorem mt_70 : mvOkT 70 = true := by decide +kernel
theorem mp_71_0 : mvOkR 71 0 120 = true := by decide +kernel
theorem mp_71_1 : mvOkR 71 120 65 = true := by decide +kernel
theorem ml_71 : ∀ p, 185 ≤ p → mvC 71 p = mvNo := fun p h => (show mc_71 p = mvNo by unfold mc_71; rw [Nat.ble_eq_true_of_le h]; rfl)
theorem mk_71 : ∀ p, mvOk 71 p = true := fun p => if h0 : p < 120 then mvOkR_at mp_71_0 p (by omega) (by omega) else if h1 : p < 185 then mvOkR_at mp_71_1 p (by omega) (by omega) else mvOk_no (ml_71 p (by omega))
theorem mt_71 : mvOkT 71 = true := by decide +kernel
theorem mp_72_0 : mvOkR 72 0 86 = true := by decide +kernel
theorem ml_72 : ∀ p, 86 ≤ p → mvC 72 p = mvNo := fun p h => (show mc_72 p = mvNo by unfold mc_72; rw [Nat.ble_eq_true_of_le h]; rfl)
theorem mk_72 : ∀ p, mvOk 72 p = true := fun p => if h0 : p < 86 then mvOkR_at mp_72_0 p (by omega) (by omega) else mvOk_no (ml_72 p (by omega))
theorem mt_72 : mvOkT 72 = true := by decide +kernel
theorem mp_73_0 : mvOkR 73 0 61 = true := by decide +kernel
theorem ml_73 : ∀ p, 61 ≤ p → mvC 73 p = mvNo := fun p h => (show mc_73 p = mvNo by unfold mc_73; rw [Nat.ble_eq_true_of_le h]; rfl)
theorem mk_73 : ∀ p, mvOk 73 p = true := fun p => if h0 : p < 61 then mvOkR_at mp_73_0 p (by omega) (by omega) else mvOk_no (ml_73 p (by omega))
theorem mt_73 : mvOkT 73 = true := by decide +kernel
theorem mp_74_0 : mvOkR 74 0 61 = true := by decide +kernel
theorem ml_74 : ∀ p, 61 ≤ p → mvC 74 p = mvNo := fun p h => (show mc_74 p = mvNo by unfold mc_74; rw [Nat.ble_eq_true_of_le h]; rfl)
theorem mk_74 : ∀ p, mvOk 74 p = true := fun p => if h0 : p < 61 then mvOkR_at mp_74_0 p (by omega) (by omega) else mvOk_no (ml_74 p (by omega))
theorem mt_74 : mvOkT 74 = true := by decide +kernel
theorem mp_75_0 : mvOkR 75 0 102 = true := by decide +kernel
theorem ml_75 : ∀ p, 102 ≤ p → mvC 75 p = mvNo := fun p h => (show mc_75 p = mvNo by unfold mc_75; rw [Nat.ble_eq_true_of_le h]; rfl)
theorem mk_75 : ∀ p, mvOk 75 p = true := fun p => if h0 : p < 102 then mvOkR_at mp_75_0 p (by omega) (by omega) else mvOk_no (ml_75 p (by omega))
theorem mt_75 : mvOkT 75 = true := by decide +kernel
theorem mp_76_0 : mvOkR 76 0 30 = true := by decide +kernel
theorem ml_76 : ∀ p, 30 ≤ p → mvC 76 p = mvNo := fun p h => (show mc_76 p = mvNo by unfold mc_76; rw [Nat.ble_eq_true_of_le h]; rfl)
theorem mk_76 : ∀ p, mvOk 76 p = true := fun p => if h0 : p < 30 then mvOkR_at mp_76_0 p (by omega) (by omega) else mvOk_no (ml_76 p (by omega))
theorem mt_76 : mvOkT 76 = true := by decide +kernel
theorem mp_77_0 : mvOkR 77 0 36 = true := by decide +kernel
theorem ml_77 : ∀ p, 36 ≤ p → mvC 77 p = mvNo := fun p h => (show mc_77 p = mvNo by unfold mc_77; rw [Nat.ble_eq_true_of_le h]; rfl)
theorem mk_77 : ∀ p, mvOk 77 p = true := fun p => if h0 : p < 36 then mvOkR_at mp_77_0 p (by omega) (by omega) else mvOk_no (ml_77 p (by omega))
theorem mt_77 : mvOkT 77 = true := by decide +kernel
theorem mp_78_0 : mvOkR 78 0 50 = true := by decide +kernel
theorem ml_78 : ∀ p, 50 ≤ p → mvC 78 p = mvNo := fun p h => (show mc_78 p = mvNo by unfold mc_78; rw [Nat.ble_eq_true_of_le h]; rfl)
theorem mk_78 : ∀ p, mvOk 78 p = true := fun p => if h0 : p < 50 then mvOkR_at mp_78_0 p (by omega) (by omega) else mvOk_no (ml_78 p (by omega))
theorem mt_78 : mvOkT 78 = true := by decide +kernel
theorem mp_79_0 : mvOkR 79 0 120 = true := by decide +kernel
theorem mp_79_1 : mvOkR 79 120 74 = true := by decide +kernel
theorem ml_79 : ∀ p, 194 ≤ p → mvC 79 p = mvNo := fun p h => (show mc_79 p = mvNo by unfold mc_79; rw [Nat.ble_eq_true_of_le h]; rfl)
theorem mk_79 : ∀ p, mvOk 79 p = true := fun p => if h0 : p < 120 then mvOkR_at mp_79_0 p (by omega) (by omega) else if h1 : p < 194 then mvOkR_at mp_79_1 p (by omega) (by omega) else mvOk_no (ml_79 p (by omega))
theorem mt_79 : mvOkT 79 = true := by decide +kernel
theorem mp_80_0 : mvOkR 80 0 35 = true := by decide +kernel
theorem ml_80 : ∀ p, 35 ≤ p → mvC 80 p = mvNo := fun p h => (show mc_80 p = mvNo by unfold mc_80; rw [Nat.ble_eq_true_of_le h]; rfl)
theorem mk_80 : ∀ p, mvOk 80 p = true := fun p => if h0 : p < 35 then mvOkR_at mp_80_0 p (by omega) (by omega) else mvOk_no (ml_80 p (by omega))
theorem mt_80 : mvOkT 80 = true := by decide +kernel
