/-! LONGS OF LETTERS: shifts, and the reference's words -/
theorem lN_bv (v : Nat) : (lN v).toBitVec = BitVec.ofNat 64 v := rfl
theorem ls_8 : (((nI 8).toInt64 &&& 63).toBitVec.smod 64).toNat = 8 := by decide
theorem ls_48 : (((nI 48).toInt64 &&& 63).toBitVec.smod 64).toNat = 48 := by decide
theorem l_shl8 (v : Nat) : lN v <<< ((nI 8).toInt64 &&& 63) = lN (v * 256) := by
  apply Int64.toBitVec_inj.1
  have e : (lN v <<< ((nI 8).toInt64 &&& 63)).toBitVec = (lN v).toBitVec <<< (((nI 8).toInt64 &&& 63).toBitVec.smod 64).toNat := rfl
  rw [e, ls_8, lN_bv, lN_bv]
  apply BitVec.eq_of_toNat_eq
  simp [BitVec.toNat_shiftLeft, Nat.shiftLeft_eq]
theorem l_shr48 (v : Nat) (hv : v < 2 ^ 63) : lN v >>> ((nI 48).toInt64 &&& 63) = lN (v / 281474976710656) := by
  apply Int64.toBitVec_inj.1
  have e : (lN v >>> ((nI 48).toInt64 &&& 63)).toBitVec = (lN v).toBitVec.sshiftRight (((nI 48).toInt64 &&& 63).toBitVec.smod 64).toNat := rfl
  have m : (BitVec.ofNat 64 v).msb = false := by
    rw [BitVec.msb_eq_decide]
    simp
    omega
  rw [e, ls_48, lN_bv, lN_bv, BitVec.sshiftRight_eq_of_msb_false m]
  apply BitVec.eq_of_toNat_eq
  rw [BitVec.toNat_ushiftRight, BitVec.toNat_ofNat, BitVec.toNat_ofNat, Nat.shiftRight_eq_div_pow, Nat.mod_eq_of_lt (by omega), Nat.mod_eq_of_lt (by omega)]
theorem l_or8 (v c : Nat) (hc : c < 256) : lN (v * 256) ||| lN c = lN (v * 256 + c) := by
  apply Int64.toBitVec_inj.1
  have e : (lN (v * 256) ||| lN c).toBitVec = (lN (v * 256)).toBitVec ||| (lN c).toBitVec := rfl
  rw [e, lN_bv, lN_bv, lN_bv, ← BitVec.ofNat_or]
  congr 1
  exact or_low (k := 8) hc
section LW
variable {σ : mvSt}
theorem r_w2 (x y : Nat) (h1 : x < 256) (h2 : y < 256) : avE 0 209 [.int (nI x), .int (nI y)] σ (some (.long (lN (x * 256 + y))), σ) := by
  show avA _ 209 0 [.int (nI (x)), .int (nI (y))] [] _ _
  refine a_iload_0 rfl rfl ?_
  refine a_i2lN rfl rfl (by omega) ?_
  refine a_bipush (v := (nI 8)) rfl rfl rfl ?_
  refine a_lshl rfl rfl ?_
  refine a_asL (y := lN (x * 256)) (l_shl8 x) ?_
  refine a_iload_1 rfl rfl ?_
  refine a_i2lN rfl rfl (by omega) ?_
  refine a_lor rfl rfl ?_
  refine a_asL (y := lN (x * 256 + y)) (l_or8 x y h2) ?_
  exact a_lret rfl rfl
theorem r_w3 (x y z : Nat) (h1 : x < 256) (h2 : y < 256) (h3 : z < 256) : avE 1 208 [.int (nI x), .int (nI y), .int (nI z)] σ (some (.long (lN ((x * 256 + y) * 256 + z))), σ) := by
  show avA _ 208 0 [.int (nI (x)), .int (nI (y)), .int (nI (z))] [] _ _
  refine a_iload_0 rfl rfl ?_
  refine a_iload_1 rfl rfl ?_
  refine a_statL rfl rfl (r_w2 x y h1 h2) (Nat.le_of_ble_eq_true rfl) ⟨rfl, rfl, rfl⟩ rfl rfl rfl (Nat.le_of_ble_eq_true rfl) rfl ?_
  refine a_bipush (v := (nI 8)) rfl rfl rfl ?_
  refine a_lshl rfl rfl ?_
  refine a_asL (y := lN ((x * 256 + y) * 256)) (l_shl8 _) ?_
  refine a_iload_2 rfl rfl ?_
  refine a_i2lN rfl rfl (by omega) ?_
  refine a_lor rfl rfl ?_
  refine a_asL (y := lN ((x * 256 + y) * 256 + z)) (l_or8 _ z h3) ?_
  exact a_lret rfl rfl
theorem r_w4 (x y z u : Nat) (h1 : x < 256) (h2 : y < 256) (h3 : z < 256) (h4 : u < 256) : avE 2 207 [.int (nI x), .int (nI y), .int (nI z), .int (nI u)] σ (some (.long (lN (((x * 256 + y) * 256 + z) * 256 + u))), σ) := by
  show avA _ 207 0 [.int (nI (x)), .int (nI (y)), .int (nI (z)), .int (nI (u))] [] _ _
  refine a_iload_0 rfl rfl ?_
  refine a_iload_1 rfl rfl ?_
  refine a_iload_2 rfl rfl ?_
  refine a_statL rfl rfl (r_w3 x y z h1 h2 h3) (Nat.le_of_ble_eq_true rfl) ⟨rfl, rfl, rfl⟩ rfl rfl rfl (Nat.le_of_ble_eq_true rfl) rfl ?_
  refine a_bipush (v := (nI 8)) rfl rfl rfl ?_
  refine a_lshl rfl rfl ?_
  refine a_asL (y := lN (((x * 256 + y) * 256 + z) * 256)) (l_shl8 _) ?_
  refine a_iload_3 rfl rfl ?_
  refine a_i2lN rfl rfl (by omega) ?_
  refine a_lor rfl rfl ?_
  refine a_asL (y := lN (((x * 256 + y) * 256 + z) * 256 + u)) (l_or8 _ u h4) ?_
  exact a_lret rfl rfl
theorem r_w5 (x y z u v : Nat) (h1 : x < 256) (h2 : y < 256) (h3 : z < 256) (h4 : u < 256) (h5 : v < 256) : avE 3 206 [.int (nI x), .int (nI y), .int (nI z), .int (nI u), .int (nI v)] σ (some (.long (lN ((((x * 256 + y) * 256 + z) * 256 + u) * 256 + v))), σ) := by
  show avA _ 206 0 [.int (nI (x)), .int (nI (y)), .int (nI (z)), .int (nI (u)), .int (nI (v))] [] _ _
  refine a_iload_0 rfl rfl ?_
  refine a_iload_1 rfl rfl ?_
  refine a_iload_2 rfl rfl ?_
  refine a_iload_3 rfl rfl ?_
  refine a_statL rfl rfl (r_w4 x y z u h1 h2 h3 h4) (Nat.le_of_ble_eq_true rfl) ⟨rfl, rfl, rfl⟩ rfl rfl rfl (Nat.le_of_ble_eq_true rfl) rfl ?_
  refine a_bipush (v := (nI 8)) rfl rfl rfl ?_
  refine a_lshl rfl rfl ?_
  refine a_asL (y := lN ((((x * 256 + y) * 256 + z) * 256 + u) * 256)) (l_shl8 _) ?_
  refine a_iload_4 rfl rfl ?_
  refine a_i2lN rfl rfl (by omega) ?_
  refine a_lor rfl rfl ?_
  refine a_asL (y := lN ((((x * 256 + y) * 256 + z) * 256 + u) * 256 + v)) (l_or8 _ v h5) ?_
  exact a_lret rfl rfl
theorem r_w6 (x y z u v w : Nat) (h1 : x < 256) (h2 : y < 256) (h3 : z < 256) (h4 : u < 256) (h5 : v < 256) (h6 : w < 256) : avE 4 205 [.int (nI x), .int (nI y), .int (nI z), .int (nI u), .int (nI v), .int (nI w)] σ (some (.long (lN (((((x * 256 + y) * 256 + z) * 256 + u) * 256 + v) * 256 + w))), σ) := by
  show avA _ 205 0 [.int (nI (x)), .int (nI (y)), .int (nI (z)), .int (nI (u)), .int (nI (v)), .int (nI (w))] [] _ _
  refine a_iload_0 rfl rfl ?_
  refine a_iload_1 rfl rfl ?_
  refine a_iload_2 rfl rfl ?_
  refine a_iload_3 rfl rfl ?_
  refine a_iload_4 rfl rfl ?_
  refine a_statL rfl rfl (r_w5 x y z u v h1 h2 h3 h4 h5) (Nat.le_of_ble_eq_true rfl) ⟨rfl, rfl, rfl⟩ rfl rfl rfl (Nat.le_of_ble_eq_true rfl) rfl ?_
  refine a_bipush (v := (nI 8)) rfl rfl rfl ?_
  refine a_lshl rfl rfl ?_
  refine a_asL (y := lN (((((x * 256 + y) * 256 + z) * 256 + u) * 256 + v) * 256)) (l_shl8 _) ?_
  refine a_iload_5 rfl rfl ?_
  refine a_i2lN rfl rfl (by omega) ?_
  refine a_lor rfl rfl ?_
  refine a_asL (y := lN (((((x * 256 + y) * 256 + z) * 256 + u) * 256 + v) * 256 + w)) (l_or8 _ w h6) ?_
  exact a_lret rfl rfl
end LW
