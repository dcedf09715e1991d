/-! the rows of the program, checked by the kernel -/
theorem mp_0_0 : mvOkR 0 0 50 = true := by decide +kernel
theorem mp_0_1 : mvOkR 0 50 50 = true := by decide +kernel
theorem mp_0_2 : mvOkR 0 100 50 = true := by decide +kernel
theorem mp_0_3 : mvOkR 0 150 50 = true := by decide +kernel
theorem mp_0_4 : mvOkR 0 200 50 = true := by decide +kernel
theorem mp_0_5 : mvOkR 0 250 50 = true := by decide +kernel
theorem mp_0_6 : mvOkR 0 300 50 = true := by decide +kernel
theorem mp_0_7 : mvOkR 0 350 50 = true := by decide +kernel
theorem mp_0_8 : mvOkR 0 400 50 = true := by decide +kernel
theorem mp_0_9 : mvOkR 0 450 50 = true := by decide +kernel
theorem mp_0_10 : mvOkR 0 500 50 = true := by decide +kernel
theorem mp_0_11 : mvOkR 0 550 50 = true := by decide +kernel
theorem mp_0_12 : mvOkR 0 600 50 = true := by decide +kernel
theorem mp_0_13 : mvOkR 0 650 50 = true := by decide +kernel
theorem mp_0_14 : mvOkR 0 700 50 = true := by decide +kernel
theorem mp_0_15 : mvOkR 0 750 50 = true := by decide +kernel
theorem mp_0_16 : mvOkR 0 800 50 = true := by decide +kernel
theorem mp_0_17 : mvOkR 0 850 50 = true := by decide +kernel
theorem mp_0_18 : mvOkR 0 900 50 = true := by decide +kernel
theorem mp_0_19 : mvOkR 0 950 50 = true := by decide +kernel
theorem mp_0_20 : mvOkR 0 1000 50 = true := by decide +kernel
theorem mp_0_21 : mvOkR 0 1050 50 = true := by decide +kernel
theorem mp_0_22 : mvOkR 0 1100 50 = true := by decide +kernel
theorem mp_0_23 : mvOkR 0 1150 50 = true := by decide +kernel
theorem mp_0_24 : mvOkR 0 1200 50 = true := by decide +kernel
theorem mp_0_25 : mvOkR 0 1250 50 = true := by decide +kernel
theorem mp_0_26 : mvOkR 0 1300 50 = true := by decide +kernel
theorem mp_0_27 : mvOkR 0 1350 50 = true := by decide +kernel
theorem mp_0_28 : mvOkR 0 1400 50 = true := by decide +kernel
theorem mp_0_29 : mvOkR 0 1450 30 = true := by decide +kernel
theorem ml_0 : ∀ p, 1480 ≤ p → mvC 0 p = mvNo := fun p h => (show mc_0 p = mvNo by unfold mc_0; rw [Nat.ble_eq_true_of_le h]; rfl)
theorem mk_0 : ∀ p, mvOk 0 p = true := fun p => if h0 : p < 50 then mvOkR_at mp_0_0 p (by omega) (by omega) else if h1 : p < 100 then mvOkR_at mp_0_1 p (by omega) (by omega) else if h2 : p < 150 then mvOkR_at mp_0_2 p (by omega) (by omega) else if h3 : p < 200 then mvOkR_at mp_0_3 p (by omega) (by omega) else if h4 : p < 250 then mvOkR_at mp_0_4 p (by omega) (by omega) else if h5 : p < 300 then mvOkR_at mp_0_5 p (by omega) (by omega) else if h6 : p < 350 then mvOkR_at mp_0_6 p (by omega) (by omega) else if h7 : p < 400 then mvOkR_at mp_0_7 p (by omega) (by omega) else if h8 : p < 450 then mvOkR_at mp_0_8 p (by omega) (by omega) else if h9 : p < 500 then mvOkR_at mp_0_9 p (by omega) (by omega) else if h10 : p < 550 then mvOkR_at mp_0_10 p (by omega) (by omega) else if h11 : p < 600 then mvOkR_at mp_0_11 p (by omega) (by omega) else if h12 : p < 650 then mvOkR_at mp_0_12 p (by omega) (by omega) else if h13 : p < 700 then mvOkR_at mp_0_13 p (by omega) (by omega) else if h14 : p < 750 then mvOkR_at mp_0_14 p (by omega) (by omega) else if h15 : p < 800 then mvOkR_at mp_0_15 p (by omega) (by omega) else if h16 : p < 850 then mvOkR_at mp_0_16 p (by omega) (by omega) else if h17 : p < 900 then mvOkR_at mp_0_17 p (by omega) (by omega) else if h18 : p < 950 then mvOkR_at mp_0_18 p (by omega) (by omega) else if h19 : p < 1000 then mvOkR_at mp_0_19 p (by omega) (by omega) else if h20 : p < 1050 then mvOkR_at mp_0_20 p (by omega) (by omega) else if h21 : p < 1100 then mvOkR_at mp_0_21 p (by omega) (by omega) else if h22 : p < 1150 then mvOkR_at mp_0_22 p (by omega) (by omega) else if h23 : p < 1200 then mvOkR_at mp_0_23 p (by omega) (by omega) else if h24 : p < 1250 then mvOkR_at mp_0_24 p (by omega) (by omega) else if h25 : p < 1300 then mvOkR_at mp_0_25 p (by omega) (by omega) else if h26 : p < 1350 then mvOkR_at mp_0_26 p (by omega) (by omega) else if h27 : p < 1400 then mvOkR_at mp_0_27 p (by omega) (by omega) else if h28 : p < 1450 then mvOkR_at mp_0_28 p (by omega) (by omega) else if h29 : p < 1480 then mvOkR_at mp_0_29 p (by omega) (by omega) else mvOk_no (ml_0 p (by omega))
