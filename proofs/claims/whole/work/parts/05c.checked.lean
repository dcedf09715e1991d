/-! the rows of the program, checked by the kernel -/
theorem mp_81_0 : mvOkR 81 0 46 = true := by decide +kernel
theorem ml_81 : ∀ p, 46 ≤ p → mvC 81 p = mvNo := fun p h => (show mc_81 p = mvNo by unfold mc_81; rw [Nat.ble_eq_true_of_le h]; rfl)
theorem mk_81 : ∀ p, mvOk 81 p = true := fun p => if h0 : p < 46 then mvOkR_at mp_81_0 p (by omega) (by omega) else mvOk_no (ml_81 p (by omega))
theorem mt_81 : mvOkT 81 = true := by decide +kernel
theorem mp_82_0 : mvOkR 82 0 25 = true := by decide +kernel
theorem ml_82 : ∀ p, 25 ≤ p → mvC 82 p = mvNo := fun p h => (show mc_82 p = mvNo by unfold mc_82; rw [Nat.ble_eq_true_of_le h]; rfl)
theorem mk_82 : ∀ p, mvOk 82 p = true := fun p => if h0 : p < 25 then mvOkR_at mp_82_0 p (by omega) (by omega) else mvOk_no (ml_82 p (by omega))
theorem mt_82 : mvOkT 82 = true := by decide +kernel
theorem mp_83_0 : mvOkR 83 0 35 = true := by decide +kernel
theorem ml_83 : ∀ p, 35 ≤ p → mvC 83 p = mvNo := fun p h => (show mc_83 p = mvNo by unfold mc_83; rw [Nat.ble_eq_true_of_le h]; rfl)
theorem mk_83 : ∀ p, mvOk 83 p = true := fun p => if h0 : p < 35 then mvOkR_at mp_83_0 p (by omega) (by omega) else mvOk_no (ml_83 p (by omega))
theorem mt_83 : mvOkT 83 = true := by decide +kernel
theorem mp_84_0 : mvOkR 84 0 30 = true := by decide +kernel
theorem ml_84 : ∀ p, 30 ≤ p → mvC 84 p = mvNo := fun p h => (show mc_84 p = mvNo by unfold mc_84; rw [Nat.ble_eq_true_of_le h]; rfl)
theorem mk_84 : ∀ p, mvOk 84 p = true := fun p => if h0 : p < 30 then mvOkR_at mp_84_0 p (by omega) (by omega) else mvOk_no (ml_84 p (by omega))
theorem mt_84 : mvOkT 84 = true := by decide +kernel
theorem mp_85_0 : mvOkR 85 0 28 = true := by decide +kernel
theorem ml_85 : ∀ p, 28 ≤ p → mvC 85 p = mvNo := fun p h => (show mc_85 p = mvNo by unfold mc_85; rw [Nat.ble_eq_true_of_le h]; rfl)
theorem mk_85 : ∀ p, mvOk 85 p = true := fun p => if h0 : p < 28 then mvOkR_at mp_85_0 p (by omega) (by omega) else mvOk_no (ml_85 p (by omega))
theorem mt_85 : mvOkT 85 = true := by decide +kernel
theorem mp_86_0 : mvOkR 86 0 62 = true := by decide +kernel
theorem ml_86 : ∀ p, 62 ≤ p → mvC 86 p = mvNo := fun p h => (show mc_86 p = mvNo by unfold mc_86; rw [Nat.ble_eq_true_of_le h]; rfl)
theorem mk_86 : ∀ p, mvOk 86 p = true := fun p => if h0 : p < 62 then mvOkR_at mp_86_0 p (by omega) (by omega) else mvOk_no (ml_86 p (by omega))
theorem mt_86 : mvOkT 86 = true := by decide +kernel
theorem mp_87_0 : mvOkR 87 0 120 = true := by decide +kernel
theorem mp_87_1 : mvOkR 87 120 8 = true := by decide +kernel
theorem ml_87 : ∀ p, 128 ≤ p → mvC 87 p = mvNo := fun p h => (show mc_87 p = mvNo by unfold mc_87; rw [Nat.ble_eq_true_of_le h]; rfl)
theorem mk_87 : ∀ p, mvOk 87 p = true := fun p => if h0 : p < 120 then mvOkR_at mp_87_0 p (by omega) (by omega) else if h1 : p < 128 then mvOkR_at mp_87_1 p (by omega) (by omega) else mvOk_no (ml_87 p (by omega))
theorem mt_87 : mvOkT 87 = true := by decide +kernel
theorem mp_88_0 : mvOkR 88 0 36 = true := by decide +kernel
theorem ml_88 : ∀ p, 36 ≤ p → mvC 88 p = mvNo := fun p h => (show mc_88 p = mvNo by unfold mc_88; rw [Nat.ble_eq_true_of_le h]; rfl)
theorem mk_88 : ∀ p, mvOk 88 p = true := fun p => if h0 : p < 36 then mvOkR_at mp_88_0 p (by omega) (by omega) else mvOk_no (ml_88 p (by omega))
theorem mt_88 : mvOkT 88 = true := by decide +kernel
theorem mp_89_0 : mvOkR 89 0 33 = true := by decide +kernel
theorem ml_89 : ∀ p, 33 ≤ p → mvC 89 p = mvNo := fun p h => (show mc_89 p = mvNo by unfold mc_89; rw [Nat.ble_eq_true_of_le h]; rfl)
theorem mk_89 : ∀ p, mvOk 89 p = true := fun p => if h0 : p < 33 then mvOkR_at mp_89_0 p (by omega) (by omega) else mvOk_no (ml_89 p (by omega))
theorem mt_89 : mvOkT 89 = true := by decide +kernel
theorem mp_90_0 : mvOkR 90 0 47 = true := by decide +kernel
theorem ml_90 : ∀ p, 47 ≤ p → mvC 90 p = mvNo := fun p h => (show mc_90 p = mvNo by unfold mc_90; rw [Nat.ble_eq_true_of_le h]; rfl)
theorem mk_90 : ∀ p, mvOk 90 p = true := fun p => if h0 : p < 47 then mvOkR_at mp_90_0 p (by omega) (by omega) else mvOk_no (ml_90 p (by omega))
theorem mt_90 : mvOkT 90 = true := by decide +kernel
theorem mp_91_0 : mvOkR 91 0 24 = true := by decide +kernel
theorem ml_91 : ∀ p, 24 ≤ p → mvC 91 p = mvNo := fun p h => (show mc_91 p = mvNo by unfold mc_91; rw [Nat.ble_eq_true_of_le h]; rfl)
theorem mk_91 : ∀ p, mvOk 91 p = true := fun p => if h0 : p < 24 then mvOkR_at mp_91_0 p (by omega) (by omega) else mvOk_no (ml_91 p (by omega))
theorem mt_91 : mvOkT 91 = true := by decide +kernel
theorem mp_92_0 : mvOkR 92 0 33 = true := by decide +kernel
theorem ml_92 : ∀ p, 33 ≤ p → mvC 92 p = mvNo := fun p h => (show mc_92 p = mvNo by unfold mc_92; rw [Nat.ble_eq_true_of_le h]; rfl)
theorem mk_92 : ∀ p, mvOk 92 p = true := fun p => if h0 : p < 33 then mvOkR_at mp_92_0 p (by omega) (by omega) else mvOk_no (ml_92 p (by omega))
theorem mt_92 : mvOkT 92 = true := by decide +kernel
theorem mp_93_0 : mvOkR 93 0 120 = true := by decide +kernel
theorem mp_93_1 : mvOkR 93 120 50 = true := by decide +kernel
theorem ml_93 : ∀ p, 170 ≤ p → mvC 93 p = mvNo := fun p h => (show mc_93 p = mvNo by unfold mc_93; rw [Nat.ble_eq_true_of_le h]; rfl)
theorem mk_93 : ∀ p, mvOk 93 p = true := fun p => if h0 : p < 120 then mvOkR_at mp_93_0 p (by omega) (by omega) else if h1 : p < 170 then mvOkR_at mp_93_1 p (by omega) (by omega) else mvOk_no (ml_93 p (by omega))
theorem mt_93 : mvOkT 93 = true := by decide +kernel
theorem mp_94_0 : mvOkR 94 0 53 = true := by decide +kernel
theorem ml_94 : ∀ p, 53 ≤ p → mvC 94 p = mvNo := fun p h => (show mc_94 p = mvNo by unfold mc_94; rw [Nat.ble_eq_true_of_le h]; rfl)
theorem mk_94 : ∀ p, mvOk 94 p = true := fun p => if h0 : p < 53 then mvOkR_at mp_94_0 p (by omega) (by omega) else mvOk_no (ml_94 p (by omega))
theorem mt_94 : mvOkT 94 = true := by decide +kernel
theorem mp_95_0 : mvOkR 95 0 32 = true := by decide +kernel
theorem ml_95 : ∀ p, 32 ≤ p → mvC 95 p = mvNo := fun p h => (show mc_95 p = mvNo by unfold mc_95; rw [Nat.ble_eq_true_of_le h]; rfl)
theorem mk_95 : ∀ p, mvOk 95 p = true := fun p => if h0 : p < 32 then mvOkR_at mp_95_0 p (by omega) (by omega) else mvOk_no (ml_95 p (by omega))
theorem mt_95 : mvOkT 95 = true := by decide +kernel
theorem mp_96_0 : mvOkR 96 0 76 = true := by decide +kernel
theorem ml_96 : ∀ p, 76 ≤ p → mvC 96 p = mvNo := fun p h => (show mc_96 p = mvNo by unfold mc_96; rw [Nat.ble_eq_true_of_le h]; rfl)
theorem mk_96 : ∀ p, mvOk 96 p = true := fun p => if h0 : p < 76 then mvOkR_at mp_96_0 p (by omega) (by omega) else mvOk_no (ml_96 p (by omega))
theorem mt_96 : mvOkT 96 = true := by decide +kernel
theorem mp_97_0 : mvOkR 97 0 31 = true := by decide +kernel
theorem ml_97 : ∀ p, 31 ≤ p → mvC 97 p = mvNo := fun p h => (show mc_97 p = mvNo by unfold mc_97; rw [Nat.ble_eq_true_of_le h]; rfl)
theorem mk_97 : ∀ p, mvOk 97 p = true := fun p => if h0 : p < 31 then mvOkR_at mp_97_0 p (by omega) (by omega) else mvOk_no (ml_97 p (by omega))
theorem mt_97 : mvOkT 97 = true := by decide +kernel
theorem mp_98_0 : mvOkR 98 0 120 = true := by decide +kernel
theorem mp_98_1 : mvOkR 98 120 32 = true := by decide +kernel
theorem ml_98 : ∀ p, 152 ≤ p → mvC 98 p = mvNo := fun p h => (show mc_98 p = mvNo by unfold mc_98; rw [Nat.ble_eq_true_of_le h]; rfl)
theorem mk_98 : ∀ p, mvOk 98 p = true := fun p => if h0 : p < 120 then mvOkR_at mp_98_0 p (by omega) (by omega) else if h1 : p < 152 then mvOkR_at mp_98_1 p (by omega) (by omega) else mvOk_no (ml_98 p (by omega))
theorem mt_98 : mvOkT 98 = true := by decide +kernel
theorem mp_99_0 : mvOkR 99 0 20 = true := by decide +kernel
theorem ml_99 : ∀ p, 20 ≤ p → mvC 99 p = mvNo := fun p h => (show mc_99 p = mvNo by unfold mc_99; rw [Nat.ble_eq_true_of_le h]; rfl)
theorem mk_99 : ∀ p, mvOk 99 p = true := fun p => if h0 : p < 20 then mvOkR_at mp_99_0 p (by omega) (by omega) else mvOk_no (ml_99 p (by omega))
theorem mt_99 : mvOkT 99 = true := by decide +kernel
theorem mp_100_0 : mvOkR 100 0 8 = true := by decide +kernel
theorem ml_100 : ∀ p, 8 ≤ p → mvC 100 p = mvNo := fun p h => (show mc_100 p = mvNo by unfold mc_100; rw [Nat.ble_eq_true_of_le h]; rfl)
theorem mk_100 : ∀ p, mvOk 100 p = true := fun p => if h0 : p < 8 then mvOkR_at mp_100_0 p (by omega) (by omega) else mvOk_no (ml_100 p (by omega))
theorem mt_100 : mvOkT 100 = true := by decide +kernel
theorem mp_101_0 : mvOkR 101 0 73 = true := by decide +kernel
theorem ml_101 : ∀ p, 73 ≤ p → mvC 101 p = mvNo := fun p h => (show mc_101 p = mvNo by unfold mc_101; rw [Nat.ble_eq_true_of_le h]; rfl)
theorem mk_101 : ∀ p, mvOk 101 p = true := fun p => if h0 : p < 73 then mvOkR_at mp_101_0 p (by omega) (by omega) else mvOk_no (ml_101 p (by omega))
theorem mt_101 : mvOkT 101 = true := by decide +kernel
theorem mp_102_0 : mvOkR 102 0 97 = true := by decide +kernel
theorem ml_102 : ∀ p, 97 ≤ p → mvC 102 p = mvNo := fun p h => (show mc_102 p = mvNo by unfold mc_102; rw [Nat.ble_eq_true_of_le h]; rfl)
theorem mk_102 : ∀ p, mvOk 102 p = true := fun p => if h0 : p < 97 then mvOkR_at mp_102_0 p (by omega) (by omega) else mvOk_no (ml_102 p (by omega))
theorem mt_102 : mvOkT 102 = true := by decide +kernel
theorem mp_103_0 : mvOkR 103 0 24 = true := by decide +kernel
theorem ml_103 : ∀ p, 24 ≤ p → mvC 103 p = mvNo := fun p h => (show mc_103 p = mvNo by unfold mc_103; rw [Nat.ble_eq_true_of_le h]; rfl)
theorem mk_103 : ∀ p, mvOk 103 p = true := fun p => if h0 : p < 24 then mvOkR_at mp_103_0 p (by omega) (by omega) else mvOk_no (ml_103 p (by omega))
theorem mt_103 : mvOkT 103 = true := by decide +kernel
theorem mp_104_0 : mvOkR 104 0 25 = true := by decide +kernel
theorem ml_104 : ∀ p, 25 ≤ p → mvC 104 p = mvNo := fun p h => (show mc_104 p = mvNo by unfold mc_104; rw [Nat.ble_eq_true_of_le h]; rfl)
theorem mk_104 : ∀ p, mvOk 104 p = true := fun p => if h0 : p < 25 then mvOkR_at mp_104_0 p (by omega) (by omega) else mvOk_no (ml_104 p (by omega))
theorem mt_104 : mvOkT 104 = true := by decide +kernel
theorem mp_105_0 : mvOkR 105 0 120 = true := by decide +kernel
theorem mp_105_1 : mvOkR 105 120 120 = true := by decide +kernel
theorem mp_105_2 : mvOkR 105 240 62 = true := by decide +kernel
theorem ml_105 : ∀ p, 302 ≤ p → mvC 105 p = mvNo := fun p h => (show mc_105 p = mvNo by unfold mc_105; rw [Nat.ble_eq_true_of_le h]; rfl)
theorem mk_105 : ∀ p, mvOk 105 p = true := fun p => if h0 : p < 120 then mvOkR_at mp_105_0 p (by omega) (by omega) else if h1 : p < 240 then mvOkR_at mp_105_1 p (by omega) (by omega) else if h2 : p < 302 then mvOkR_at mp_105_2 p (by omega) (by omega) else mvOk_no (ml_105 p (by omega))
theorem mt_105 : mvOkT 105 = true := by decide +kernel
theorem mp_106_0 : mvOkR 106 0 120 = true := by decide +kernel
theorem mp_106_1 : mvOkR 106 120 79 = true := by decide +kernel
theorem ml_106 : ∀ p, 199 ≤ p → mvC 106 p = mvNo := fun p h => (show mc_106 p = mvNo by unfold mc_106; rw [Nat.ble_eq_true_of_le h]; rfl)
theorem mk_106 : ∀ p, mvOk 106 p = true := fun p => if h0 : p < 120 then mvOkR_at mp_106_0 p (by omega) (by omega) else if h1 : p < 199 then mvOkR_at mp_106_1 p (by omega) (by omega) else mvOk_no (ml_106 p (by omega))
theorem mt_106 : mvOkT 106 = true := by decide +kernel
theorem mp_107_0 : mvOkR 107 0 10 = true := by decide +kernel
theorem ml_107 : ∀ p, 10 ≤ p → mvC 107 p = mvNo := fun p h => (show mc_107 p = mvNo by unfold mc_107; rw [Nat.ble_eq_true_of_le h]; rfl)
theorem mk_107 : ∀ p, mvOk 107 p = true := fun p => if h0 : p < 10 then mvOkR_at mp_107_0 p (by omega) (by omega) else mvOk_no (ml_107 p (by omega))
theorem mt_107 : mvOkT 107 = true := by decide +kernel
theorem mp_108_0 : mvOkR 108 0 120 = true := by decide +kernel
theorem mp_108_1 : mvOkR 108 120 120 = true := by decide +kernel
theorem mp_108_2 : mvOkR 108 240 35 = true := by decide +kernel
theorem ml_108 : ∀ p, 275 ≤ p → mvC 108 p = mvNo := fun p h => (show mc_108 p = mvNo by unfold mc_108; rw [Nat.ble_eq_true_of_le h]; rfl)
theorem mk_108 : ∀ p, mvOk 108 p = true := fun p => if h0 : p < 120 then mvOkR_at mp_108_0 p (by omega) (by omega) else if h1 : p < 240 then mvOkR_at mp_108_1 p (by omega) (by omega) else if h2 : p < 275 then mvOkR_at mp_108_2 p (by omega) (by omega) else mvOk_no (ml_108 p (by omega))
theorem mt_108 : mvOkT 108 = true := by decide +kernel
theorem mp_109_0 : mvOkR 109 0 24 = true := by decide +kernel
theorem ml_109 : ∀ p, 24 ≤ p → mvC 109 p = mvNo := fun p h => (show mc_109 p = mvNo by unfold mc_109; rw [Nat.ble_eq_true_of_le h]; rfl)
theorem mk_109 : ∀ p, mvOk 109 p = true := fun p => if h0 : p < 24 then mvOkR_at mp_109_0 p (by omega) (by omega) else mvOk_no (ml_109 p (by omega))
theorem mt_109 : mvOkT 109 = true := by decide +kernel
theorem mp_110_0 : mvOkR 110 0 98 = true := by decide +kernel
theorem ml_110 : ∀ p, 98 ≤ p → mvC 110 p = mvNo := fun p h => (show mc_110 p = mvNo by unfold mc_110; rw [Nat.ble_eq_true_of_le h]; rfl)
theorem mk_110 : ∀ p, mvOk 110 p = true := fun p => if h0 : p < 98 then mvOkR_at mp_110_0 p (by omega) (by omega) else mvOk_no (ml_110 p (by omega))
theorem mt_110 : mvOkT 110 = true := by decide +kernel
theorem mp_111_0 : mvOkR 111 0 115 = true := by decide +kernel
theorem ml_111 : ∀ p, 115 ≤ p → mvC 111 p = mvNo := fun p h => (show mc_111 p = mvNo by unfold mc_111; rw [Nat.ble_eq_true_of_le h]; rfl)
theorem mk_111 : ∀ p, mvOk 111 p = true := fun p => if h0 : p < 115 then mvOkR_at mp_111_0 p (by omega) (by omega) else mvOk_no (ml_111 p (by omega))
theorem mt_111 : mvOkT 111 = true := by decide +kernel
theorem mp_112_0 : mvOkR 112 0 11 = true := by decide +kernel
theorem ml_112 : ∀ p, 11 ≤ p → mvC 112 p = mvNo := fun p h => (show mc_112 p = mvNo by unfold mc_112; rw [Nat.ble_eq_true_of_le h]; rfl)
theorem mk_112 : ∀ p, mvOk 112 p = true := fun p => if h0 : p < 11 then mvOkR_at mp_112_0 p (by omega) (by omega) else mvOk_no (ml_112 p (by omega))
theorem mt_112 : mvOkT 112 = true := by decide +kernel
theorem mp_113_0 : mvOkR 113 0 63 = true := by decide +kernel
theorem ml_113 : ∀ p, 63 ≤ p → mvC 113 p = mvNo := fun p h => (show mc_113 p = mvNo by unfold mc_113; rw [Nat.ble_eq_true_of_le h]; rfl)
theorem mk_113 : ∀ p, mvOk 113 p = true := fun p => if h0 : p < 63 then mvOkR_at mp_113_0 p (by omega) (by omega) else mvOk_no (ml_113 p (by omega))
theorem mt_113 : mvOkT 113 = true := by decide +kernel
theorem mp_114_0 : mvOkR 114 0 120 = true := by decide +kernel
theorem mp_114_1 : mvOkR 114 120 83 = true := by decide +kernel
theorem ml_114 : ∀ p, 203 ≤ p → mvC 114 p = mvNo := fun p h => (show mc_114 p = mvNo by unfold mc_114; rw [Nat.ble_eq_true_of_le h]; rfl)
theorem mk_114 : ∀ p, mvOk 114 p = true := fun p => if h0 : p < 120 then mvOkR_at mp_114_0 p (by omega) (by omega) else if h1 : p < 203 then mvOkR_at mp_114_1 p (by omega) (by omega) else mvOk_no (ml_114 p (by omega))
theorem mt_114 : mvOkT 114 = true := by decide +kernel
theorem mp_115_0 : mvOkR 115 0 85 = true := by decide +kernel
theorem ml_115 : ∀ p, 85 ≤ p → mvC 115 p = mvNo := fun p h => (show mc_115 p = mvNo by unfold mc_115; rw [Nat.ble_eq_true_of_le h]; rfl)
theorem mk_115 : ∀ p, mvOk 115 p = true := fun p => if h0 : p < 85 then mvOkR_at mp_115_0 p (by omega) (by omega) else mvOk_no (ml_115 p (by omega))
theorem mt_115 : mvOkT 115 = true := by decide +kernel
theorem mp_116_0 : mvOkR 116 0 120 = true := by decide +kernel
theorem mp_116_1 : mvOkR 116 120 13 = true := by decide +kernel
theorem ml_116 : ∀ p, 133 ≤ p → mvC 116 p = mvNo := fun p h => (show mc_116 p = mvNo by unfold mc_116; rw [Nat.ble_eq_true_of_le h]; rfl)
theorem mk_116 : ∀ p, mvOk 116 p = true := fun p => if h0 : p < 120 then mvOkR_at mp_116_0 p (by omega) (by omega) else if h1 : p < 133 then mvOkR_at mp_116_1 p (by omega) (by omega) else mvOk_no (ml_116 p (by omega))
theorem mt_116 : mvOkT 116 = true := by decide +kernel
theorem mp_117_0 : mvOkR 117 0 22 = true := by decide +kernel
theorem ml_117 : ∀ p, 22 ≤ p → mvC 117 p = mvNo := fun p h => (show mc_117 p = mvNo by unfold mc_117; rw [Nat.ble_eq_true_of_le h]; rfl)
theorem mk_117 : ∀ p, mvOk 117 p = true := fun p => if h0 : p < 22 then mvOkR_at mp_117_0 p (by omega) (by omega) else mvOk_no (ml_117 p (by omega))
theorem mt_117 : mvOkT 117 = true := by decide +kernel
theorem mp_118_0 : mvOkR 118 0 47 = true := by decide +kernel
theorem ml_118 : ∀ p, 47 ≤ p → mvC 118 p = mvNo := fun p h => (show mc_118 p = mvNo by unfold mc_118; rw [Nat.ble_eq_true_of_le h]; rfl)
theorem mk_118 : ∀ p, mvOk 118 p = true := fun p => if h0 : p < 47 then mvOkR_at mp_118_0 p (by omega) (by omega) else mvOk_no (ml_118 p (by omega))
theorem mt_118 : mvOkT 118 = true := by decide +kernel
theorem mp_119_0 : mvOkR 119 0 120 = true := by decide +kernel
theorem mp_119_1 : mvOkR 119 120 9 = true := by decide +kernel
theorem ml_119 : ∀ p, 129 ≤ p → mvC 119 p = mvNo := fun p h => (show mc_119 p = mvNo by unfold mc_119; rw [Nat.ble_eq_true_of_le h]; rfl)
theorem mk_119 : ∀ p, mvOk 119 p = true := fun p => if h0 : p < 120 then mvOkR_at mp_119_0 p (by omega) (by omega) else if h1 : p < 129 then mvOkR_at mp_119_1 p (by omega) (by omega) else mvOk_no (ml_119 p (by omega))
theorem mt_119 : mvOkT 119 = true := by decide +kernel
theorem mp_120_0 : mvOkR 120 0 101 = true := by decide +kernel
theorem ml_120 : ∀ p, 101 ≤ p → mvC 120 p = mvNo := fun p h => (show mc_120 p = mvNo by unfold mc_120; rw [Nat.ble_eq_true_of_le h]; rfl)
theorem mk_120 : ∀ p, mvOk 120 p = true := fun p => if h0 : p < 101 then mvOkR_at mp_120_0 p (by omega) (by omega) else mvOk_no (ml_120 p (by omega))
theorem mt_120 : mvOkT 120 = true := by decide +kernel
theorem mp_121_0 : mvOkR 121 0 38 = true := by decide +kernel
theorem ml_121 : ∀ p, 38 ≤ p → mvC 121 p = mvNo := fun p h => (show mc_121 p = mvNo by unfold mc_121; rw [Nat.ble_eq_true_of_le h]; rfl)
theorem mk_121 : ∀ p, mvOk 121 p = true := fun p => if h0 : p < 38 then mvOkR_at mp_121_0 p (by omega) (by omega) else mvOk_no (ml_121 p (by omega))
theorem mt_121 : mvOkT 121 = true := by decide +kernel
theorem mp_122_0 : mvOkR 122 0 111 = true := by decide +kernel
theorem ml_122 : ∀ p, 111 ≤ p → mvC 122 p = mvNo := fun p h => (show mc_122 p = mvNo by unfold mc_122; rw [Nat.ble_eq_true_of_le h]; rfl)
theorem mk_122 : ∀ p, mvOk 122 p = true := fun p => if h0 : p < 111 then mvOkR_at mp_122_0 p (by omega) (by omega) else mvOk_no (ml_122 p (by omega))
theorem mt_122 : mvOkT 122 = true := by decide +kernel
theorem mp_123_0 : mvOkR 123 0 104 = true := by decide +kernel
theorem ml_123 : ∀ p, 104 ≤ p → mvC 123 p = mvNo := fun p h => (show mc_123 p = mvNo by unfold mc_123; rw [Nat.ble_eq_true_of_le h]; rfl)
theorem mk_123 : ∀ p, mvOk 123 p = true := fun p => if h0 : p < 104 then mvOkR_at mp_123_0 p (by omega) (by omega) else mvOk_no (ml_123 p (by omega))
theorem mt_123 : mvOkT 123 = true := by decide +kernel
theorem mp_124_0 : mvOkR 124 0 89 = true := by decide +kernel
theorem ml_124 : ∀ p, 89 ≤ p → mvC 124 p = mvNo := fun p h => (show mc_124 p = mvNo by unfold mc_124; rw [Nat.ble_eq_true_of_le h]; rfl)
theorem mk_124 : ∀ p, mvOk 124 p = true := fun p => if h0 : p < 89 then mvOkR_at mp_124_0 p (by omega) (by omega) else mvOk_no (ml_124 p (by omega))
theorem mt_124 : mvOkT 124 = true := by decide +kernel
theorem mp_125_0 : mvOkR 125 0 15 = true := by decide +kernel
theorem ml_125 : ∀ p, 15 ≤ p → mvC 125 p = mvNo := fun p h => (show mc_125 p = mvNo by unfold mc_125; rw [Nat.ble_eq_true_of_le h]; rfl)
theorem mk_125 : ∀ p, mvOk 125 p = true := fun p => if h0 : p < 15 then mvOkR_at mp_125_0 p (by omega) (by omega) else mvOk_no (ml_125 p (by omega))
theorem mt_125 : mvOkT 125 = true := by decide +kernel
theorem mp_126_0 : mvOkR 126 0 5 = true := by decide +kernel
theorem ml_126 : ∀ p, 5 ≤ p → mvC 126 p = mvNo := fun p h => (show mc_126 p = mvNo by unfold mc_126; rw [Nat.ble_eq_true_of_le h]; rfl)
theorem mk_126 : ∀ p, mvOk 126 p = true := fun p => if h0 : p < 5 then mvOkR_at mp_126_0 p (by omega) (by omega) else mvOk_no (ml_126 p (by omega))
theorem mt_126 : mvOkT 126 = true := by decide +kernel
theorem mp_127_0 : mvOkR 127 0 7 = true := by decide +kernel
theorem ml_127 : ∀ p, 7 ≤ p → mvC 127 p = mvNo := fun p h => (show mc_127 p = mvNo by unfold mc_127; rw [Nat.ble_eq_true_of_le h]; rfl)
theorem mk_127 : ∀ p, mvOk 127 p = true := fun p => if h0 : p < 7 then mvOkR_at mp_127_0 p (by omega) (by omega) else mvOk_no (ml_127 p (by omega))
theorem mt_127 : mvOkT 127 = true := by decide +kernel
theorem mp_128_0 : mvOkR 128 0 5 = true := by decide +kernel
theorem ml_128 : ∀ p, 5 ≤ p → mvC 128 p = mvNo := fun p h => (show mc_128 p = mvNo by unfold mc_128; rw [Nat.ble_eq_true_of_le h]; rfl)
theorem mk_128 : ∀ p, mvOk 128 p = true := fun p => if h0 : p < 5 then mvOkR_at mp_128_0 p (by omega) (by omega) else mvOk_no (ml_128 p (by omega))
theorem mt_128 : mvOkT 128 = true := by decide +kernel
theorem mp_129_0 : mvOkR 129 0 118 = true := by decide +kernel
theorem ml_129 : ∀ p, 118 ≤ p → mvC 129 p = mvNo := fun p h => (show mc_129 p = mvNo by unfold mc_129; rw [Nat.ble_eq_true_of_le h]; rfl)
theorem mk_129 : ∀ p, mvOk 129 p = true := fun p => if h0 : p < 118 then mvOkR_at mp_129_0 p (by omega) (by omega) else mvOk_no (ml_129 p (by omega))
theorem mt_129 : mvOkT 129 = true := by decide +kernel
theorem mp_130_0 : mvOkR 130 0 114 = true := by decide +kernel
theorem ml_130 : ∀ p, 114 ≤ p → mvC 130 p = mvNo := fun p h => (show mc_130 p = mvNo by unfold mc_130; rw [Nat.ble_eq_true_of_le h]; rfl)
theorem mk_130 : ∀ p, mvOk 130 p = true := fun p => if h0 : p < 114 then mvOkR_at mp_130_0 p (by omega) (by omega) else mvOk_no (ml_130 p (by omega))
theorem mt_130 : mvOkT 130 = true := by decide +kernel
theorem mp_131_0 : mvOkR 131 0 10 = true := by decide +kernel
theorem ml_131 : ∀ p, 10 ≤ p → mvC 131 p = mvNo := fun p h => (show mc_131 p = mvNo by unfold mc_131; rw [Nat.ble_eq_true_of_le h]; rfl)
theorem mk_131 : ∀ p, mvOk 131 p = true := fun p => if h0 : p < 10 then mvOkR_at mp_131_0 p (by omega) (by omega) else mvOk_no (ml_131 p (by omega))
theorem mt_131 : mvOkT 131 = true := by decide +kernel
theorem mp_132_0 : mvOkR 132 0 64 = true := by decide +kernel
theorem ml_132 : ∀ p, 64 ≤ p → mvC 132 p = mvNo := fun p h => (show mc_132 p = mvNo by unfold mc_132; rw [Nat.ble_eq_true_of_le h]; rfl)
theorem mk_132 : ∀ p, mvOk 132 p = true := fun p => if h0 : p < 64 then mvOkR_at mp_132_0 p (by omega) (by omega) else mvOk_no (ml_132 p (by omega))
theorem mt_132 : mvOkT 132 = true := by decide +kernel
theorem mp_133_0 : mvOkR 133 0 74 = true := by decide +kernel
theorem ml_133 : ∀ p, 74 ≤ p → mvC 133 p = mvNo := fun p h => (show mc_133 p = mvNo by unfold mc_133; rw [Nat.ble_eq_true_of_le h]; rfl)
theorem mk_133 : ∀ p, mvOk 133 p = true := fun p => if h0 : p < 74 then mvOkR_at mp_133_0 p (by omega) (by omega) else mvOk_no (ml_133 p (by omega))
theorem mt_133 : mvOkT 133 = true := by decide +kernel
theorem mp_134_0 : mvOkR 134 0 92 = true := by decide +kernel
theorem ml_134 : ∀ p, 92 ≤ p → mvC 134 p = mvNo := fun p h => (show mc_134 p = mvNo by unfold mc_134; rw [Nat.ble_eq_true_of_le h]; rfl)
theorem mk_134 : ∀ p, mvOk 134 p = true := fun p => if h0 : p < 92 then mvOkR_at mp_134_0 p (by omega) (by omega) else mvOk_no (ml_134 p (by omega))
theorem mt_134 : mvOkT 134 = true := by decide +kernel
theorem mp_135_0 : mvOkR 135 0 41 = true := by decide +kernel
theorem ml_135 : ∀ p, 41 ≤ p → mvC 135 p = mvNo := fun p h => (show mc_135 p = mvNo by unfold mc_135; rw [Nat.ble_eq_true_of_le h]; rfl)
theorem mk_135 : ∀ p, mvOk 135 p = true := fun p => if h0 : p < 41 then mvOkR_at mp_135_0 p (by omega) (by omega) else mvOk_no (ml_135 p (by omega))
theorem mt_135 : mvOkT 135 = true := by decide +kernel
theorem mp_136_0 : mvOkR 136 0 26 = true := by decide +kernel
theorem ml_136 : ∀ p, 26 ≤ p → mvC 136 p = mvNo := fun p h => (show mc_136 p = mvNo by unfold mc_136; rw [Nat.ble_eq_true_of_le h]; rfl)
theorem mk_136 : ∀ p, mvOk 136 p = true := fun p => if h0 : p < 26 then mvOkR_at mp_136_0 p (by omega) (by omega) else mvOk_no (ml_136 p (by omega))
theorem mt_136 : mvOkT 136 = true := by decide +kernel
theorem mp_137_0 : mvOkR 137 0 13 = true := by decide +kernel
theorem ml_137 : ∀ p, 13 ≤ p → mvC 137 p = mvNo := fun p h => (show mc_137 p = mvNo by unfold mc_137; rw [Nat.ble_eq_true_of_le h]; rfl)
theorem mk_137 : ∀ p, mvOk 137 p = true := fun p => if h0 : p < 13 then mvOkR_at mp_137_0 p (by omega) (by omega) else mvOk_no (ml_137 p (by omega))
theorem mt_137 : mvOkT 137 = true := by decide +kernel
theorem mp_138_0 : mvOkR 138 0 78 = true := by decide +kernel
theorem ml_138 : ∀ p, 78 ≤ p → mvC 138 p = mvNo := fun p h => (show mc_138 p = mvNo by unfold mc_138; rw [Nat.ble_eq_true_of_le h]; rfl)
theorem mk_138 : ∀ p, mvOk 138 p = true := fun p => if h0 : p < 78 then mvOkR_at mp_138_0 p (by omega) (by omega) else mvOk_no (ml_138 p (by omega))
theorem mt_138 : mvOkT 138 = true := by decide +kernel
theorem mp_139_0 : mvOkR 139 0 13 = true := by decide +kernel
theorem ml_139 : ∀ p, 13 ≤ p → mvC 139 p = mvNo := fun p h => (show mc_139 p = mvNo by unfold mc_139; rw [Nat.ble_eq_true_of_le h]; rfl)
theorem mk_139 : ∀ p, mvOk 139 p = true := fun p => if h0 : p < 13 then mvOkR_at mp_139_0 p (by omega) (by omega) else mvOk_no (ml_139 p (by omega))
theorem mt_139 : mvOkT 139 = true := by decide +kernel
theorem mp_140_0 : mvOkR 140 0 110 = true := by decide +kernel
theorem ml_140 : ∀ p, 110 ≤ p → mvC 140 p = mvNo := fun p h => (show mc_140 p = mvNo by unfold mc_140; rw [Nat.ble_eq_true_of_le h]; rfl)
theorem mk_140 : ∀ p, mvOk 140 p = true := fun p => if h0 : p < 110 then mvOkR_at mp_140_0 p (by omega) (by omega) else mvOk_no (ml_140 p (by omega))
theorem mt_140 : mvOkT 140 = true := by decide +kernel
theorem mp_141_0 : mvOkR 141 0 118 = true := by decide +kernel
theorem ml_141 : ∀ p, 118 ≤ p → mvC 141 p = mvNo := fun p h => (show mc_141 p = mvNo by unfold mc_141; rw [Nat.ble_eq_true_of_le h]; rfl)
theorem mk_141 : ∀ p, mvOk 141 p = true := fun p => if h0 : p < 118 then mvOkR_at mp_141_0 p (by omega) (by omega) else mvOk_no (ml_141 p (by omega))
theorem mt_141 : mvOkT 141 = true := by decide +kernel
theorem mp_142_0 : mvOkR 142 0 26 = true := by decide +kernel
theorem ml_142 : ∀ p, 26 ≤ p → mvC 142 p = mvNo := fun p h => (show mc_142 p = mvNo by unfold mc_142; rw [Nat.ble_eq_true_of_le h]; rfl)
theorem mk_142 : ∀ p, mvOk 142 p = true := fun p => if h0 : p < 26 then mvOkR_at mp_142_0 p (by omega) (by omega) else mvOk_no (ml_142 p (by omega))
theorem mt_142 : mvOkT 142 = true := by decide +kernel
theorem mp_143_0 : mvOkR 143 0 24 = true := by decide +kernel
theorem ml_143 : ∀ p, 24 ≤ p → mvC 143 p = mvNo := fun p h => (show mc_143 p = mvNo by unfold mc_143; rw [Nat.ble_eq_true_of_le h]; rfl)
theorem mk_143 : ∀ p, mvOk 143 p = true := fun p => if h0 : p < 24 then mvOkR_at mp_143_0 p (by omega) (by omega) else mvOk_no (ml_143 p (by omega))
theorem mt_143 : mvOkT 143 = true := by decide +kernel
theorem mp_144_0 : mvOkR 144 0 47 = true := by decide +kernel
theorem ml_144 : ∀ p, 47 ≤ p → mvC 144 p = mvNo := fun p h => (show mc_144 p = mvNo by unfold mc_144; rw [Nat.ble_eq_true_of_le h]; rfl)
theorem mk_144 : ∀ p, mvOk 144 p = true := fun p => if h0 : p < 47 then mvOkR_at mp_144_0 p (by omega) (by omega) else mvOk_no (ml_144 p (by omega))
theorem mt_144 : mvOkT 144 = true := by decide +kernel
theorem mp_145_0 : mvOkR 145 0 13 = true := by decide +kernel
theorem ml_145 : ∀ p, 13 ≤ p → mvC 145 p = mvNo := fun p h => (show mc_145 p = mvNo by unfold mc_145; rw [Nat.ble_eq_true_of_le h]; rfl)
theorem mk_145 : ∀ p, mvOk 145 p = true := fun p => if h0 : p < 13 then mvOkR_at mp_145_0 p (by omega) (by omega) else mvOk_no (ml_145 p (by omega))
theorem mt_145 : mvOkT 145 = true := by decide +kernel
theorem mp_146_0 : mvOkR 146 0 86 = true := by decide +kernel
theorem ml_146 : ∀ p, 86 ≤ p → mvC 146 p = mvNo := fun p h => (show mc_146 p = mvNo by unfold mc_146; rw [Nat.ble_eq_true_of_le h]; rfl)
theorem mk_146 : ∀ p, mvOk 146 p = true := fun p => if h0 : p < 86 then mvOkR_at mp_146_0 p (by omega) (by omega) else mvOk_no (ml_146 p (by omega))
theorem mt_146 : mvOkT 146 = true := by decide +kernel
theorem mp_147_0 : mvOkR 147 0 78 = true := by decide +kernel
theorem ml_147 : ∀ p, 78 ≤ p → mvC 147 p = mvNo := fun p h => (show mc_147 p = mvNo by unfold mc_147; rw [Nat.ble_eq_true_of_le h]; rfl)
theorem mk_147 : ∀ p, mvOk 147 p = true := fun p => if h0 : p < 78 then mvOkR_at mp_147_0 p (by omega) (by omega) else mvOk_no (ml_147 p (by omega))
theorem mt_147 : mvOkT 147 = true := by decide +kernel
theorem mp_148_0 : mvOkR 148 0 39 = true := by decide +kernel
theorem ml_148 : ∀ p, 39 ≤ p → mvC 148 p = mvNo := fun p h => (show mc_148 p = mvNo by unfold mc_148; rw [Nat.ble_eq_true_of_le h]; rfl)
theorem mk_148 : ∀ p, mvOk 148 p = true := fun p => if h0 : p < 39 then mvOkR_at mp_148_0 p (by omega) (by omega) else mvOk_no (ml_148 p (by omega))
theorem mt_148 : mvOkT 148 = true := by decide +kernel
theorem mp_149_0 : mvOkR 149 0 102 = true := by decide +kernel
theorem ml_149 : ∀ p, 102 ≤ p → mvC 149 p = mvNo := fun p h => (show mc_149 p = mvNo by unfold mc_149; rw [Nat.ble_eq_true_of_le h]; rfl)
theorem mk_149 : ∀ p, mvOk 149 p = true := fun p => if h0 : p < 102 then mvOkR_at mp_149_0 p (by omega) (by omega) else mvOk_no (ml_149 p (by omega))
theorem mt_149 : mvOkT 149 = true := by decide +kernel
theorem mp_150_0 : mvOkR 150 0 34 = true := by decide +kernel
theorem ml_150 : ∀ p, 34 ≤ p → mvC 150 p = mvNo := fun p h => (show mc_150 p = mvNo by unfold mc_150; rw [Nat.ble_eq_true_of_le h]; rfl)
theorem mk_150 : ∀ p, mvOk 150 p = true := fun p => if h0 : p < 34 then mvOkR_at mp_150_0 p (by omega) (by omega) else mvOk_no (ml_150 p (by omega))
theorem mt_150 : mvOkT 150 = true := by decide +kernel
theorem mp_151_0 : mvOkR 151 0 56 = true := by decide +kernel
theorem ml_151 : ∀ p, 56 ≤ p → mvC 151 p = mvNo := fun p h => (show mc_151 p = mvNo by unfold mc_151; rw [Nat.ble_eq_true_of_le h]; rfl)
theorem mk_151 : ∀ p, mvOk 151 p = true := fun p => if h0 : p < 56 then mvOkR_at mp_151_0 p (by omega) (by omega) else mvOk_no (ml_151 p (by omega))
theorem mt_151 : mvOkT 151 = true := by decide +kernel
theorem mp_152_0 : mvOkR 152 0 52 = true := by decide +kernel
theorem ml_152 : ∀ p, 52 ≤ p → mvC 152 p = mvNo := fun p h => (show mc_152 p = mvNo by unfold mc_152; rw [Nat.ble_eq_true_of_le h]; rfl)
theorem mk_152 : ∀ p, mvOk 152 p = true := fun p => if h0 : p < 52 then mvOkR_at mp_152_0 p (by omega) (by omega) else mvOk_no (ml_152 p (by omega))
theorem mt_152 : mvOkT 152 = true := by decide +kernel
theorem mp_153_0 : mvOkR 153 0 91 = true := by decide +kernel
theorem ml_153 : ∀ p, 91 ≤ p → mvC 153 p = mvNo := fun p h => (show mc_153 p = mvNo by unfold mc_153; rw [Nat.ble_eq_true_of_le h]; rfl)
theorem mk_153 : ∀ p, mvOk 153 p = true := fun p => if h0 : p < 91 then mvOkR_at mp_153_0 p (by omega) (by omega) else mvOk_no (ml_153 p (by omega))
theorem mt_153 : mvOkT 153 = true := by decide +kernel
theorem mp_154_0 : mvOkR 154 0 29 = true := by decide +kernel
theorem ml_154 : ∀ p, 29 ≤ p → mvC 154 p = mvNo := fun p h => (show mc_154 p = mvNo by unfold mc_154; rw [Nat.ble_eq_true_of_le h]; rfl)
theorem mk_154 : ∀ p, mvOk 154 p = true := fun p => if h0 : p < 29 then mvOkR_at mp_154_0 p (by omega) (by omega) else mvOk_no (ml_154 p (by omega))
theorem mt_154 : mvOkT 154 = true := by decide +kernel
theorem mp_155_0 : mvOkR 155 0 57 = true := by decide +kernel
theorem ml_155 : ∀ p, 57 ≤ p → mvC 155 p = mvNo := fun p h => (show mc_155 p = mvNo by unfold mc_155; rw [Nat.ble_eq_true_of_le h]; rfl)
theorem mk_155 : ∀ p, mvOk 155 p = true := fun p => if h0 : p < 57 then mvOkR_at mp_155_0 p (by omega) (by omega) else mvOk_no (ml_155 p (by omega))
theorem mt_155 : mvOkT 155 = true := by decide +kernel
theorem mp_156_0 : mvOkR 156 0 37 = true := by decide +kernel
theorem ml_156 : ∀ p, 37 ≤ p → mvC 156 p = mvNo := fun p h => (show mc_156 p = mvNo by unfold mc_156; rw [Nat.ble_eq_true_of_le h]; rfl)
theorem mk_156 : ∀ p, mvOk 156 p = true := fun p => if h0 : p < 37 then mvOkR_at mp_156_0 p (by omega) (by omega) else mvOk_no (ml_156 p (by omega))
theorem mt_156 : mvOkT 156 = true := by decide +kernel
theorem mp_157_0 : mvOkR 157 0 39 = true := by decide +kernel
theorem ml_157 : ∀ p, 39 ≤ p → mvC 157 p = mvNo := fun p h => (show mc_157 p = mvNo by unfold mc_157; rw [Nat.ble_eq_true_of_le h]; rfl)
theorem mk_157 : ∀ p, mvOk 157 p = true := fun p => if h0 : p < 39 then mvOkR_at mp_157_0 p (by omega) (by omega) else mvOk_no (ml_157 p (by omega))
theorem mt_157 : mvOkT 157 = true := by decide +kernel
theorem mp_158_0 : mvOkR 158 0 50 = true := by decide +kernel
theorem ml_158 : ∀ p, 50 ≤ p → mvC 158 p = mvNo := fun p h => (show mc_158 p = mvNo by unfold mc_158; rw [Nat.ble_eq_true_of_le h]; rfl)
theorem mk_158 : ∀ p, mvOk 158 p = true := fun p => if h0 : p < 50 then mvOkR_at mp_158_0 p (by omega) (by omega) else mvOk_no (ml_158 p (by omega))
theorem mt_158 : mvOkT 158 = true := by decide +kernel
theorem mp_159_0 : mvOkR 159 0 65 = true := by decide +kernel
theorem ml_159 : ∀ p, 65 ≤ p → mvC 159 p = mvNo := fun p h => (show mc_159 p = mvNo by unfold mc_159; rw [Nat.ble_eq_true_of_le h]; rfl)
theorem mk_159 : ∀ p, mvOk 159 p = true := fun p => if h0 : p < 65 then mvOkR_at mp_159_0 p (by omega) (by omega) else mvOk_no (ml_159 p (by omega))
theorem mt_159 : mvOkT 159 = true := by decide +kernel
theorem mp_160_0 : mvOkR 160 0 30 = true := by decide +kernel
theorem ml_160 : ∀ p, 30 ≤ p → mvC 160 p = mvNo := fun p h => (show mc_160 p = mvNo by unfold mc_160; rw [Nat.ble_eq_true_of_le h]; rfl)
theorem mk_160 : ∀ p, mvOk 160 p = true := fun p => if h0 : p < 30 then mvOkR_at mp_160_0 p (by omega) (by omega) else mvOk_no (ml_160 p (by omega))
theorem mt_160 : mvOkT 160 = true := by decide +kernel
