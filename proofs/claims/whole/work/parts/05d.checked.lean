/-! the rows of the program, checked by the kernel -/
theorem mp_161_0 : mvOkR 161 0 34 = true := by decide +kernel
theorem ml_161 : ∀ p, 34 ≤ p → mvC 161 p = mvNo := fun p h => (show mc_161 p = mvNo by unfold mc_161; rw [Nat.ble_eq_true_of_le h]; rfl)
theorem mk_161 : ∀ p, mvOk 161 p = true := fun p => if h0 : p < 34 then mvOkR_at mp_161_0 p (by omega) (by omega) else mvOk_no (ml_161 p (by omega))
theorem mt_161 : mvOkT 161 = true := by decide +kernel
theorem mp_162_0 : mvOkR 162 0 39 = true := by decide +kernel
theorem ml_162 : ∀ p, 39 ≤ p → mvC 162 p = mvNo := fun p h => (show mc_162 p = mvNo by unfold mc_162; rw [Nat.ble_eq_true_of_le h]; rfl)
theorem mk_162 : ∀ p, mvOk 162 p = true := fun p => if h0 : p < 39 then mvOkR_at mp_162_0 p (by omega) (by omega) else mvOk_no (ml_162 p (by omega))
theorem mt_162 : mvOkT 162 = true := by decide +kernel
theorem mp_163_0 : mvOkR 163 0 35 = true := by decide +kernel
theorem ml_163 : ∀ p, 35 ≤ p → mvC 163 p = mvNo := fun p h => (show mc_163 p = mvNo by unfold mc_163; rw [Nat.ble_eq_true_of_le h]; rfl)
theorem mk_163 : ∀ p, mvOk 163 p = true := fun p => if h0 : p < 35 then mvOkR_at mp_163_0 p (by omega) (by omega) else mvOk_no (ml_163 p (by omega))
theorem mt_163 : mvOkT 163 = true := by decide +kernel
theorem mp_164_0 : mvOkR 164 0 82 = true := by decide +kernel
theorem ml_164 : ∀ p, 82 ≤ p → mvC 164 p = mvNo := fun p h => (show mc_164 p = mvNo by unfold mc_164; rw [Nat.ble_eq_true_of_le h]; rfl)
theorem mk_164 : ∀ p, mvOk 164 p = true := fun p => if h0 : p < 82 then mvOkR_at mp_164_0 p (by omega) (by omega) else mvOk_no (ml_164 p (by omega))
theorem mt_164 : mvOkT 164 = true := by decide +kernel
theorem mp_165_0 : mvOkR 165 0 83 = true := by decide +kernel
theorem ml_165 : ∀ p, 83 ≤ p → mvC 165 p = mvNo := fun p h => (show mc_165 p = mvNo by unfold mc_165; rw [Nat.ble_eq_true_of_le h]; rfl)
theorem mk_165 : ∀ p, mvOk 165 p = true := fun p => if h0 : p < 83 then mvOkR_at mp_165_0 p (by omega) (by omega) else mvOk_no (ml_165 p (by omega))
theorem mt_165 : mvOkT 165 = true := by decide +kernel
theorem mp_166_0 : mvOkR 166 0 37 = true := by decide +kernel
theorem ml_166 : ∀ p, 37 ≤ p → mvC 166 p = mvNo := fun p h => (show mc_166 p = mvNo by unfold mc_166; rw [Nat.ble_eq_true_of_le h]; rfl)
theorem mk_166 : ∀ p, mvOk 166 p = true := fun p => if h0 : p < 37 then mvOkR_at mp_166_0 p (by omega) (by omega) else mvOk_no (ml_166 p (by omega))
theorem mt_166 : mvOkT 166 = true := by decide +kernel
theorem mp_167_0 : mvOkR 167 0 108 = true := by decide +kernel
theorem ml_167 : ∀ p, 108 ≤ p → mvC 167 p = mvNo := fun p h => (show mc_167 p = mvNo by unfold mc_167; rw [Nat.ble_eq_true_of_le h]; rfl)
theorem mk_167 : ∀ p, mvOk 167 p = true := fun p => if h0 : p < 108 then mvOkR_at mp_167_0 p (by omega) (by omega) else mvOk_no (ml_167 p (by omega))
theorem mt_167 : mvOkT 167 = true := by decide +kernel
theorem mp_168_0 : mvOkR 168 0 13 = true := by decide +kernel
theorem ml_168 : ∀ p, 13 ≤ p → mvC 168 p = mvNo := fun p h => (show mc_168 p = mvNo by unfold mc_168; rw [Nat.ble_eq_true_of_le h]; rfl)
theorem mk_168 : ∀ p, mvOk 168 p = true := fun p => if h0 : p < 13 then mvOkR_at mp_168_0 p (by omega) (by omega) else mvOk_no (ml_168 p (by omega))
theorem mt_168 : mvOkT 168 = true := by decide +kernel
theorem mp_169_0 : mvOkR 169 0 87 = true := by decide +kernel
theorem ml_169 : ∀ p, 87 ≤ p → mvC 169 p = mvNo := fun p h => (show mc_169 p = mvNo by unfold mc_169; rw [Nat.ble_eq_true_of_le h]; rfl)
theorem mk_169 : ∀ p, mvOk 169 p = true := fun p => if h0 : p < 87 then mvOkR_at mp_169_0 p (by omega) (by omega) else mvOk_no (ml_169 p (by omega))
theorem mt_169 : mvOkT 169 = true := by decide +kernel
theorem mp_170_0 : mvOkR 170 0 81 = true := by decide +kernel
theorem ml_170 : ∀ p, 81 ≤ p → mvC 170 p = mvNo := fun p h => (show mc_170 p = mvNo by unfold mc_170; rw [Nat.ble_eq_true_of_le h]; rfl)
theorem mk_170 : ∀ p, mvOk 170 p = true := fun p => if h0 : p < 81 then mvOkR_at mp_170_0 p (by omega) (by omega) else mvOk_no (ml_170 p (by omega))
theorem mt_170 : mvOkT 170 = true := by decide +kernel
theorem mp_171_0 : mvOkR 171 0 45 = true := by decide +kernel
theorem ml_171 : ∀ p, 45 ≤ p → mvC 171 p = mvNo := fun p h => (show mc_171 p = mvNo by unfold mc_171; rw [Nat.ble_eq_true_of_le h]; rfl)
theorem mk_171 : ∀ p, mvOk 171 p = true := fun p => if h0 : p < 45 then mvOkR_at mp_171_0 p (by omega) (by omega) else mvOk_no (ml_171 p (by omega))
theorem mt_171 : mvOkT 171 = true := by decide +kernel
theorem mp_172_0 : mvOkR 172 0 50 = true := by decide +kernel
theorem ml_172 : ∀ p, 50 ≤ p → mvC 172 p = mvNo := fun p h => (show mc_172 p = mvNo by unfold mc_172; rw [Nat.ble_eq_true_of_le h]; rfl)
theorem mk_172 : ∀ p, mvOk 172 p = true := fun p => if h0 : p < 50 then mvOkR_at mp_172_0 p (by omega) (by omega) else mvOk_no (ml_172 p (by omega))
theorem mt_172 : mvOkT 172 = true := by decide +kernel
theorem mp_173_0 : mvOkR 173 0 40 = true := by decide +kernel
theorem ml_173 : ∀ p, 40 ≤ p → mvC 173 p = mvNo := fun p h => (show mc_173 p = mvNo by unfold mc_173; rw [Nat.ble_eq_true_of_le h]; rfl)
theorem mk_173 : ∀ p, mvOk 173 p = true := fun p => if h0 : p < 40 then mvOkR_at mp_173_0 p (by omega) (by omega) else mvOk_no (ml_173 p (by omega))
theorem mt_173 : mvOkT 173 = true := by decide +kernel
theorem mp_174_0 : mvOkR 174 0 56 = true := by decide +kernel
theorem ml_174 : ∀ p, 56 ≤ p → mvC 174 p = mvNo := fun p h => (show mc_174 p = mvNo by unfold mc_174; rw [Nat.ble_eq_true_of_le h]; rfl)
theorem mk_174 : ∀ p, mvOk 174 p = true := fun p => if h0 : p < 56 then mvOkR_at mp_174_0 p (by omega) (by omega) else mvOk_no (ml_174 p (by omega))
theorem mt_174 : mvOkT 174 = true := by decide +kernel
theorem mp_175_0 : mvOkR 175 0 67 = true := by decide +kernel
theorem ml_175 : ∀ p, 67 ≤ p → mvC 175 p = mvNo := fun p h => (show mc_175 p = mvNo by unfold mc_175; rw [Nat.ble_eq_true_of_le h]; rfl)
theorem mk_175 : ∀ p, mvOk 175 p = true := fun p => if h0 : p < 67 then mvOkR_at mp_175_0 p (by omega) (by omega) else mvOk_no (ml_175 p (by omega))
theorem mt_175 : mvOkT 175 = true := by decide +kernel
theorem mp_176_0 : mvOkR 176 0 22 = true := by decide +kernel
theorem ml_176 : ∀ p, 22 ≤ p → mvC 176 p = mvNo := fun p h => (show mc_176 p = mvNo by unfold mc_176; rw [Nat.ble_eq_true_of_le h]; rfl)
theorem mk_176 : ∀ p, mvOk 176 p = true := fun p => if h0 : p < 22 then mvOkR_at mp_176_0 p (by omega) (by omega) else mvOk_no (ml_176 p (by omega))
theorem mt_176 : mvOkT 176 = true := by decide +kernel
theorem mp_177_0 : mvOkR 177 0 120 = true := by decide +kernel
theorem mp_177_1 : mvOkR 177 120 31 = true := by decide +kernel
theorem ml_177 : ∀ p, 151 ≤ p → mvC 177 p = mvNo := fun p h => (show mc_177 p = mvNo by unfold mc_177; rw [Nat.ble_eq_true_of_le h]; rfl)
theorem mk_177 : ∀ p, mvOk 177 p = true := fun p => if h0 : p < 120 then mvOkR_at mp_177_0 p (by omega) (by omega) else if h1 : p < 151 then mvOkR_at mp_177_1 p (by omega) (by omega) else mvOk_no (ml_177 p (by omega))
theorem mt_177 : mvOkT 177 = true := by decide +kernel
theorem mp_178_0 : mvOkR 178 0 51 = true := by decide +kernel
theorem ml_178 : ∀ p, 51 ≤ p → mvC 178 p = mvNo := fun p h => (show mc_178 p = mvNo by unfold mc_178; rw [Nat.ble_eq_true_of_le h]; rfl)
theorem mk_178 : ∀ p, mvOk 178 p = true := fun p => if h0 : p < 51 then mvOkR_at mp_178_0 p (by omega) (by omega) else mvOk_no (ml_178 p (by omega))
theorem mt_178 : mvOkT 178 = true := by decide +kernel
theorem mp_179_0 : mvOkR 179 0 26 = true := by decide +kernel
theorem ml_179 : ∀ p, 26 ≤ p → mvC 179 p = mvNo := fun p h => (show mc_179 p = mvNo by unfold mc_179; rw [Nat.ble_eq_true_of_le h]; rfl)
theorem mk_179 : ∀ p, mvOk 179 p = true := fun p => if h0 : p < 26 then mvOkR_at mp_179_0 p (by omega) (by omega) else mvOk_no (ml_179 p (by omega))
theorem mt_179 : mvOkT 179 = true := by decide +kernel
theorem mp_180_0 : mvOkR 180 0 120 = true := by decide +kernel
theorem mp_180_1 : mvOkR 180 120 22 = true := by decide +kernel
theorem ml_180 : ∀ p, 142 ≤ p → mvC 180 p = mvNo := fun p h => (show mc_180 p = mvNo by unfold mc_180; rw [Nat.ble_eq_true_of_le h]; rfl)
theorem mk_180 : ∀ p, mvOk 180 p = true := fun p => if h0 : p < 120 then mvOkR_at mp_180_0 p (by omega) (by omega) else if h1 : p < 142 then mvOkR_at mp_180_1 p (by omega) (by omega) else mvOk_no (ml_180 p (by omega))
theorem mt_180 : mvOkT 180 = true := by decide +kernel
theorem mp_181_0 : mvOkR 181 0 120 = true := by decide +kernel
theorem mp_181_1 : mvOkR 181 120 95 = true := by decide +kernel
theorem ml_181 : ∀ p, 215 ≤ p → mvC 181 p = mvNo := fun p h => (show mc_181 p = mvNo by unfold mc_181; rw [Nat.ble_eq_true_of_le h]; rfl)
theorem mk_181 : ∀ p, mvOk 181 p = true := fun p => if h0 : p < 120 then mvOkR_at mp_181_0 p (by omega) (by omega) else if h1 : p < 215 then mvOkR_at mp_181_1 p (by omega) (by omega) else mvOk_no (ml_181 p (by omega))
theorem mt_181 : mvOkT 181 = true := by decide +kernel
theorem mp_182_0 : mvOkR 182 0 22 = true := by decide +kernel
theorem ml_182 : ∀ p, 22 ≤ p → mvC 182 p = mvNo := fun p h => (show mc_182 p = mvNo by unfold mc_182; rw [Nat.ble_eq_true_of_le h]; rfl)
theorem mk_182 : ∀ p, mvOk 182 p = true := fun p => if h0 : p < 22 then mvOkR_at mp_182_0 p (by omega) (by omega) else mvOk_no (ml_182 p (by omega))
theorem mt_182 : mvOkT 182 = true := by decide +kernel
theorem mp_183_0 : mvOkR 183 0 54 = true := by decide +kernel
theorem ml_183 : ∀ p, 54 ≤ p → mvC 183 p = mvNo := fun p h => (show mc_183 p = mvNo by unfold mc_183; rw [Nat.ble_eq_true_of_le h]; rfl)
theorem mk_183 : ∀ p, mvOk 183 p = true := fun p => if h0 : p < 54 then mvOkR_at mp_183_0 p (by omega) (by omega) else mvOk_no (ml_183 p (by omega))
theorem mt_183 : mvOkT 183 = true := by decide +kernel
theorem mp_184_0 : mvOkR 184 0 8 = true := by decide +kernel
theorem ml_184 : ∀ p, 8 ≤ p → mvC 184 p = mvNo := fun p h => (show mc_184 p = mvNo by unfold mc_184; rw [Nat.ble_eq_true_of_le h]; rfl)
theorem mk_184 : ∀ p, mvOk 184 p = true := fun p => if h0 : p < 8 then mvOkR_at mp_184_0 p (by omega) (by omega) else mvOk_no (ml_184 p (by omega))
theorem mt_184 : mvOkT 184 = true := by decide +kernel
theorem mp_185_0 : mvOkR 185 0 16 = true := by decide +kernel
theorem ml_185 : ∀ p, 16 ≤ p → mvC 185 p = mvNo := fun p h => (show mc_185 p = mvNo by unfold mc_185; rw [Nat.ble_eq_true_of_le h]; rfl)
theorem mk_185 : ∀ p, mvOk 185 p = true := fun p => if h0 : p < 16 then mvOkR_at mp_185_0 p (by omega) (by omega) else mvOk_no (ml_185 p (by omega))
theorem mt_185 : mvOkT 185 = true := by decide +kernel
theorem mp_186_0 : mvOkR 186 0 42 = true := by decide +kernel
theorem ml_186 : ∀ p, 42 ≤ p → mvC 186 p = mvNo := fun p h => (show mc_186 p = mvNo by unfold mc_186; rw [Nat.ble_eq_true_of_le h]; rfl)
theorem mk_186 : ∀ p, mvOk 186 p = true := fun p => if h0 : p < 42 then mvOkR_at mp_186_0 p (by omega) (by omega) else mvOk_no (ml_186 p (by omega))
theorem mt_186 : mvOkT 186 = true := by decide +kernel
theorem mp_187_0 : mvOkR 187 0 14 = true := by decide +kernel
theorem ml_187 : ∀ p, 14 ≤ p → mvC 187 p = mvNo := fun p h => (show mc_187 p = mvNo by unfold mc_187; rw [Nat.ble_eq_true_of_le h]; rfl)
theorem mk_187 : ∀ p, mvOk 187 p = true := fun p => if h0 : p < 14 then mvOkR_at mp_187_0 p (by omega) (by omega) else mvOk_no (ml_187 p (by omega))
theorem mt_187 : mvOkT 187 = true := by decide +kernel
theorem mp_188_0 : mvOkR 188 0 31 = true := by decide +kernel
theorem ml_188 : ∀ p, 31 ≤ p → mvC 188 p = mvNo := fun p h => (show mc_188 p = mvNo by unfold mc_188; rw [Nat.ble_eq_true_of_le h]; rfl)
theorem mk_188 : ∀ p, mvOk 188 p = true := fun p => if h0 : p < 31 then mvOkR_at mp_188_0 p (by omega) (by omega) else mvOk_no (ml_188 p (by omega))
theorem mt_188 : mvOkT 188 = true := by decide +kernel
theorem mp_189_0 : mvOkR 189 0 68 = true := by decide +kernel
theorem ml_189 : ∀ p, 68 ≤ p → mvC 189 p = mvNo := fun p h => (show mc_189 p = mvNo by unfold mc_189; rw [Nat.ble_eq_true_of_le h]; rfl)
theorem mk_189 : ∀ p, mvOk 189 p = true := fun p => if h0 : p < 68 then mvOkR_at mp_189_0 p (by omega) (by omega) else mvOk_no (ml_189 p (by omega))
theorem mt_189 : mvOkT 189 = true := by decide +kernel
theorem mp_190_0 : mvOkR 190 0 26 = true := by decide +kernel
theorem ml_190 : ∀ p, 26 ≤ p → mvC 190 p = mvNo := fun p h => (show mc_190 p = mvNo by unfold mc_190; rw [Nat.ble_eq_true_of_le h]; rfl)
theorem mk_190 : ∀ p, mvOk 190 p = true := fun p => if h0 : p < 26 then mvOkR_at mp_190_0 p (by omega) (by omega) else mvOk_no (ml_190 p (by omega))
theorem mt_190 : mvOkT 190 = true := by decide +kernel
theorem mp_191_0 : mvOkR 191 0 15 = true := by decide +kernel
theorem ml_191 : ∀ p, 15 ≤ p → mvC 191 p = mvNo := fun p h => (show mc_191 p = mvNo by unfold mc_191; rw [Nat.ble_eq_true_of_le h]; rfl)
theorem mk_191 : ∀ p, mvOk 191 p = true := fun p => if h0 : p < 15 then mvOkR_at mp_191_0 p (by omega) (by omega) else mvOk_no (ml_191 p (by omega))
theorem mt_191 : mvOkT 191 = true := by decide +kernel
theorem mp_192_0 : mvOkR 192 0 32 = true := by decide +kernel
theorem ml_192 : ∀ p, 32 ≤ p → mvC 192 p = mvNo := fun p h => (show mc_192 p = mvNo by unfold mc_192; rw [Nat.ble_eq_true_of_le h]; rfl)
theorem mk_192 : ∀ p, mvOk 192 p = true := fun p => if h0 : p < 32 then mvOkR_at mp_192_0 p (by omega) (by omega) else mvOk_no (ml_192 p (by omega))
theorem mt_192 : mvOkT 192 = true := by decide +kernel
theorem mp_193_0 : mvOkR 193 0 47 = true := by decide +kernel
theorem ml_193 : ∀ p, 47 ≤ p → mvC 193 p = mvNo := fun p h => (show mc_193 p = mvNo by unfold mc_193; rw [Nat.ble_eq_true_of_le h]; rfl)
theorem mk_193 : ∀ p, mvOk 193 p = true := fun p => if h0 : p < 47 then mvOkR_at mp_193_0 p (by omega) (by omega) else mvOk_no (ml_193 p (by omega))
theorem mt_193 : mvOkT 193 = true := by decide +kernel
theorem mp_194_0 : mvOkR 194 0 40 = true := by decide +kernel
theorem ml_194 : ∀ p, 40 ≤ p → mvC 194 p = mvNo := fun p h => (show mc_194 p = mvNo by unfold mc_194; rw [Nat.ble_eq_true_of_le h]; rfl)
theorem mk_194 : ∀ p, mvOk 194 p = true := fun p => if h0 : p < 40 then mvOkR_at mp_194_0 p (by omega) (by omega) else mvOk_no (ml_194 p (by omega))
theorem mt_194 : mvOkT 194 = true := by decide +kernel
theorem mp_195_0 : mvOkR 195 0 21 = true := by decide +kernel
theorem ml_195 : ∀ p, 21 ≤ p → mvC 195 p = mvNo := fun p h => (show mc_195 p = mvNo by unfold mc_195; rw [Nat.ble_eq_true_of_le h]; rfl)
theorem mk_195 : ∀ p, mvOk 195 p = true := fun p => if h0 : p < 21 then mvOkR_at mp_195_0 p (by omega) (by omega) else mvOk_no (ml_195 p (by omega))
theorem mt_195 : mvOkT 195 = true := by decide +kernel
theorem mp_196_0 : mvOkR 196 0 72 = true := by decide +kernel
theorem ml_196 : ∀ p, 72 ≤ p → mvC 196 p = mvNo := fun p h => (show mc_196 p = mvNo by unfold mc_196; rw [Nat.ble_eq_true_of_le h]; rfl)
theorem mk_196 : ∀ p, mvOk 196 p = true := fun p => if h0 : p < 72 then mvOkR_at mp_196_0 p (by omega) (by omega) else mvOk_no (ml_196 p (by omega))
theorem mt_196 : mvOkT 196 = true := by decide +kernel
theorem mp_197_0 : mvOkR 197 0 66 = true := by decide +kernel
theorem ml_197 : ∀ p, 66 ≤ p → mvC 197 p = mvNo := fun p h => (show mc_197 p = mvNo by unfold mc_197; rw [Nat.ble_eq_true_of_le h]; rfl)
theorem mk_197 : ∀ p, mvOk 197 p = true := fun p => if h0 : p < 66 then mvOkR_at mp_197_0 p (by omega) (by omega) else mvOk_no (ml_197 p (by omega))
theorem mt_197 : mvOkT 197 = true := by decide +kernel
theorem mp_198_0 : mvOkR 198 0 120 = true := by decide +kernel
theorem mp_198_1 : mvOkR 198 120 120 = true := by decide +kernel
theorem mp_198_2 : mvOkR 198 240 71 = true := by decide +kernel
theorem ml_198 : ∀ p, 311 ≤ p → mvC 198 p = mvNo := fun p h => (show mc_198 p = mvNo by unfold mc_198; rw [Nat.ble_eq_true_of_le h]; rfl)
theorem mk_198 : ∀ p, mvOk 198 p = true := fun p => if h0 : p < 120 then mvOkR_at mp_198_0 p (by omega) (by omega) else if h1 : p < 240 then mvOkR_at mp_198_1 p (by omega) (by omega) else if h2 : p < 311 then mvOkR_at mp_198_2 p (by omega) (by omega) else mvOk_no (ml_198 p (by omega))
theorem mt_198 : mvOkT 198 = true := by decide +kernel
theorem mp_199_0 : mvOkR 199 0 19 = true := by decide +kernel
theorem ml_199 : ∀ p, 19 ≤ p → mvC 199 p = mvNo := fun p h => (show mc_199 p = mvNo by unfold mc_199; rw [Nat.ble_eq_true_of_le h]; rfl)
theorem mk_199 : ∀ p, mvOk 199 p = true := fun p => if h0 : p < 19 then mvOkR_at mp_199_0 p (by omega) (by omega) else mvOk_no (ml_199 p (by omega))
theorem mt_199 : mvOkT 199 = true := by decide +kernel
theorem mp_200_0 : mvOkR 200 0 18 = true := by decide +kernel
theorem ml_200 : ∀ p, 18 ≤ p → mvC 200 p = mvNo := fun p h => (show mc_200 p = mvNo by unfold mc_200; rw [Nat.ble_eq_true_of_le h]; rfl)
theorem mk_200 : ∀ p, mvOk 200 p = true := fun p => if h0 : p < 18 then mvOkR_at mp_200_0 p (by omega) (by omega) else mvOk_no (ml_200 p (by omega))
theorem mt_200 : mvOkT 200 = true := by decide +kernel
theorem mp_201_0 : mvOkR 201 0 30 = true := by decide +kernel
theorem ml_201 : ∀ p, 30 ≤ p → mvC 201 p = mvNo := fun p h => (show mc_201 p = mvNo by unfold mc_201; rw [Nat.ble_eq_true_of_le h]; rfl)
theorem mk_201 : ∀ p, mvOk 201 p = true := fun p => if h0 : p < 30 then mvOkR_at mp_201_0 p (by omega) (by omega) else mvOk_no (ml_201 p (by omega))
theorem mt_201 : mvOkT 201 = true := by decide +kernel
theorem mp_202_0 : mvOkR 202 0 120 = true := by decide +kernel
theorem mp_202_1 : mvOkR 202 120 12 = true := by decide +kernel
theorem ml_202 : ∀ p, 132 ≤ p → mvC 202 p = mvNo := fun p h => (show mc_202 p = mvNo by unfold mc_202; rw [Nat.ble_eq_true_of_le h]; rfl)
theorem mk_202 : ∀ p, mvOk 202 p = true := fun p => if h0 : p < 120 then mvOkR_at mp_202_0 p (by omega) (by omega) else if h1 : p < 132 then mvOkR_at mp_202_1 p (by omega) (by omega) else mvOk_no (ml_202 p (by omega))
theorem mt_202 : mvOkT 202 = true := by decide +kernel
theorem mp_203_0 : mvOkR 203 0 120 = true := by decide +kernel
theorem mp_203_1 : mvOkR 203 120 18 = true := by decide +kernel
theorem ml_203 : ∀ p, 138 ≤ p → mvC 203 p = mvNo := fun p h => (show mc_203 p = mvNo by unfold mc_203; rw [Nat.ble_eq_true_of_le h]; rfl)
theorem mk_203 : ∀ p, mvOk 203 p = true := fun p => if h0 : p < 120 then mvOkR_at mp_203_0 p (by omega) (by omega) else if h1 : p < 138 then mvOkR_at mp_203_1 p (by omega) (by omega) else mvOk_no (ml_203 p (by omega))
theorem mt_203 : mvOkT 203 = true := by decide +kernel
theorem mp_204_0 : mvOkR 204 0 120 = true := by decide +kernel
theorem mp_204_1 : mvOkR 204 120 102 = true := by decide +kernel
theorem ml_204 : ∀ p, 222 ≤ p → mvC 204 p = mvNo := fun p h => (show mc_204 p = mvNo by unfold mc_204; rw [Nat.ble_eq_true_of_le h]; rfl)
theorem mk_204 : ∀ p, mvOk 204 p = true := fun p => if h0 : p < 120 then mvOkR_at mp_204_0 p (by omega) (by omega) else if h1 : p < 222 then mvOkR_at mp_204_1 p (by omega) (by omega) else mvOk_no (ml_204 p (by omega))
theorem mt_204 : mvOkT 204 = true := by decide +kernel
theorem mp_205_0 : mvOkR 205 0 17 = true := by decide +kernel
theorem ml_205 : ∀ p, 17 ≤ p → mvC 205 p = mvNo := fun p h => (show mc_205 p = mvNo by unfold mc_205; rw [Nat.ble_eq_true_of_le h]; rfl)
theorem mk_205 : ∀ p, mvOk 205 p = true := fun p => if h0 : p < 17 then mvOkR_at mp_205_0 p (by omega) (by omega) else mvOk_no (ml_205 p (by omega))
theorem mt_205 : mvOkT 205 = true := by decide +kernel
theorem mp_206_0 : mvOkR 206 0 15 = true := by decide +kernel
theorem ml_206 : ∀ p, 15 ≤ p → mvC 206 p = mvNo := fun p h => (show mc_206 p = mvNo by unfold mc_206; rw [Nat.ble_eq_true_of_le h]; rfl)
theorem mk_206 : ∀ p, mvOk 206 p = true := fun p => if h0 : p < 15 then mvOkR_at mp_206_0 p (by omega) (by omega) else mvOk_no (ml_206 p (by omega))
theorem mt_206 : mvOkT 206 = true := by decide +kernel
theorem mp_207_0 : mvOkR 207 0 13 = true := by decide +kernel
theorem ml_207 : ∀ p, 13 ≤ p → mvC 207 p = mvNo := fun p h => (show mc_207 p = mvNo by unfold mc_207; rw [Nat.ble_eq_true_of_le h]; rfl)
theorem mk_207 : ∀ p, mvOk 207 p = true := fun p => if h0 : p < 13 then mvOkR_at mp_207_0 p (by omega) (by omega) else mvOk_no (ml_207 p (by omega))
theorem mt_207 : mvOkT 207 = true := by decide +kernel
theorem mp_208_0 : mvOkR 208 0 12 = true := by decide +kernel
theorem ml_208 : ∀ p, 12 ≤ p → mvC 208 p = mvNo := fun p h => (show mc_208 p = mvNo by unfold mc_208; rw [Nat.ble_eq_true_of_le h]; rfl)
theorem mk_208 : ∀ p, mvOk 208 p = true := fun p => if h0 : p < 12 then mvOkR_at mp_208_0 p (by omega) (by omega) else mvOk_no (ml_208 p (by omega))
theorem mt_208 : mvOkT 208 = true := by decide +kernel
theorem mp_209_0 : mvOkR 209 0 9 = true := by decide +kernel
theorem ml_209 : ∀ p, 9 ≤ p → mvC 209 p = mvNo := fun p h => (show mc_209 p = mvNo by unfold mc_209; rw [Nat.ble_eq_true_of_le h]; rfl)
theorem mk_209 : ∀ p, mvOk 209 p = true := fun p => if h0 : p < 9 then mvOkR_at mp_209_0 p (by omega) (by omega) else mvOk_no (ml_209 p (by omega))
theorem mt_209 : mvOkT 209 = true := by decide +kernel
theorem mp_210_0 : mvOkR 210 0 23 = true := by decide +kernel
theorem ml_210 : ∀ p, 23 ≤ p → mvC 210 p = mvNo := fun p h => (show mc_210 p = mvNo by unfold mc_210; rw [Nat.ble_eq_true_of_le h]; rfl)
theorem mk_210 : ∀ p, mvOk 210 p = true := fun p => if h0 : p < 23 then mvOkR_at mp_210_0 p (by omega) (by omega) else mvOk_no (ml_210 p (by omega))
theorem mt_210 : mvOkT 210 = true := by decide +kernel
theorem mp_211_0 : mvOkR 211 0 15 = true := by decide +kernel
theorem ml_211 : ∀ p, 15 ≤ p → mvC 211 p = mvNo := fun p h => (show mc_211 p = mvNo by unfold mc_211; rw [Nat.ble_eq_true_of_le h]; rfl)
theorem mk_211 : ∀ p, mvOk 211 p = true := fun p => if h0 : p < 15 then mvOkR_at mp_211_0 p (by omega) (by omega) else mvOk_no (ml_211 p (by omega))
theorem mt_211 : mvOkT 211 = true := by decide +kernel
theorem mp_212_0 : mvOkR 212 0 120 = true := by decide +kernel
theorem mp_212_1 : mvOkR 212 120 28 = true := by decide +kernel
theorem ml_212 : ∀ p, 148 ≤ p → mvC 212 p = mvNo := fun p h => (show mc_212 p = mvNo by unfold mc_212; rw [Nat.ble_eq_true_of_le h]; rfl)
theorem mk_212 : ∀ p, mvOk 212 p = true := fun p => if h0 : p < 120 then mvOkR_at mp_212_0 p (by omega) (by omega) else if h1 : p < 148 then mvOkR_at mp_212_1 p (by omega) (by omega) else mvOk_no (ml_212 p (by omega))
theorem mt_212 : mvOkT 212 = true := by decide +kernel
theorem mp_213_0 : mvOkR 213 0 32 = true := by decide +kernel
theorem ml_213 : ∀ p, 32 ≤ p → mvC 213 p = mvNo := fun p h => (show mc_213 p = mvNo by unfold mc_213; rw [Nat.ble_eq_true_of_le h]; rfl)
theorem mk_213 : ∀ p, mvOk 213 p = true := fun p => if h0 : p < 32 then mvOkR_at mp_213_0 p (by omega) (by omega) else mvOk_no (ml_213 p (by omega))
theorem mt_213 : mvOkT 213 = true := by decide +kernel
theorem mp_214_0 : mvOkR 214 0 40 = true := by decide +kernel
theorem ml_214 : ∀ p, 40 ≤ p → mvC 214 p = mvNo := fun p h => (show mc_214 p = mvNo by unfold mc_214; rw [Nat.ble_eq_true_of_le h]; rfl)
theorem mk_214 : ∀ p, mvOk 214 p = true := fun p => if h0 : p < 40 then mvOkR_at mp_214_0 p (by omega) (by omega) else mvOk_no (ml_214 p (by omega))
theorem mt_214 : mvOkT 214 = true := by decide +kernel
theorem mp_215_0 : mvOkR 215 0 23 = true := by decide +kernel
theorem ml_215 : ∀ p, 23 ≤ p → mvC 215 p = mvNo := fun p h => (show mc_215 p = mvNo by unfold mc_215; rw [Nat.ble_eq_true_of_le h]; rfl)
theorem mk_215 : ∀ p, mvOk 215 p = true := fun p => if h0 : p < 23 then mvOkR_at mp_215_0 p (by omega) (by omega) else mvOk_no (ml_215 p (by omega))
theorem mt_215 : mvOkT 215 = true := by decide +kernel
theorem mp_216_0 : mvOkR 216 0 31 = true := by decide +kernel
theorem ml_216 : ∀ p, 31 ≤ p → mvC 216 p = mvNo := fun p h => (show mc_216 p = mvNo by unfold mc_216; rw [Nat.ble_eq_true_of_le h]; rfl)
theorem mk_216 : ∀ p, mvOk 216 p = true := fun p => if h0 : p < 31 then mvOkR_at mp_216_0 p (by omega) (by omega) else mvOk_no (ml_216 p (by omega))
theorem mt_216 : mvOkT 216 = true := by decide +kernel
theorem mp_217_0 : mvOkR 217 0 63 = true := by decide +kernel
theorem ml_217 : ∀ p, 63 ≤ p → mvC 217 p = mvNo := fun p h => (show mc_217 p = mvNo by unfold mc_217; rw [Nat.ble_eq_true_of_le h]; rfl)
theorem mk_217 : ∀ p, mvOk 217 p = true := fun p => if h0 : p < 63 then mvOkR_at mp_217_0 p (by omega) (by omega) else mvOk_no (ml_217 p (by omega))
theorem mt_217 : mvOkT 217 = true := by decide +kernel
theorem mp_218_0 : mvOkR 218 0 120 = true := by decide +kernel
theorem mp_218_1 : mvOkR 218 120 24 = true := by decide +kernel
theorem ml_218 : ∀ p, 144 ≤ p → mvC 218 p = mvNo := fun p h => (show mc_218 p = mvNo by unfold mc_218; rw [Nat.ble_eq_true_of_le h]; rfl)
theorem mk_218 : ∀ p, mvOk 218 p = true := fun p => if h0 : p < 120 then mvOkR_at mp_218_0 p (by omega) (by omega) else if h1 : p < 144 then mvOkR_at mp_218_1 p (by omega) (by omega) else mvOk_no (ml_218 p (by omega))
theorem mt_218 : mvOkT 218 = true := by decide +kernel
theorem mp_219_0 : mvOkR 219 0 113 = true := by decide +kernel
theorem ml_219 : ∀ p, 113 ≤ p → mvC 219 p = mvNo := fun p h => (show mc_219 p = mvNo by unfold mc_219; rw [Nat.ble_eq_true_of_le h]; rfl)
theorem mk_219 : ∀ p, mvOk 219 p = true := fun p => if h0 : p < 113 then mvOkR_at mp_219_0 p (by omega) (by omega) else mvOk_no (ml_219 p (by omega))
theorem mt_219 : mvOkT 219 = true := by decide +kernel
theorem mp_220_0 : mvOkR 220 0 21 = true := by decide +kernel
theorem ml_220 : ∀ p, 21 ≤ p → mvC 220 p = mvNo := fun p h => (show mc_220 p = mvNo by unfold mc_220; rw [Nat.ble_eq_true_of_le h]; rfl)
theorem mk_220 : ∀ p, mvOk 220 p = true := fun p => if h0 : p < 21 then mvOkR_at mp_220_0 p (by omega) (by omega) else mvOk_no (ml_220 p (by omega))
theorem mt_220 : mvOkT 220 = true := by decide +kernel
theorem mp_221_0 : mvOkR 221 0 30 = true := by decide +kernel
theorem ml_221 : ∀ p, 30 ≤ p → mvC 221 p = mvNo := fun p h => (show mc_221 p = mvNo by unfold mc_221; rw [Nat.ble_eq_true_of_le h]; rfl)
theorem mk_221 : ∀ p, mvOk 221 p = true := fun p => if h0 : p < 30 then mvOkR_at mp_221_0 p (by omega) (by omega) else mvOk_no (ml_221 p (by omega))
theorem mt_221 : mvOkT 221 = true := by decide +kernel
theorem mp_222_0 : mvOkR 222 0 53 = true := by decide +kernel
theorem ml_222 : ∀ p, 53 ≤ p → mvC 222 p = mvNo := fun p h => (show mc_222 p = mvNo by unfold mc_222; rw [Nat.ble_eq_true_of_le h]; rfl)
theorem mk_222 : ∀ p, mvOk 222 p = true := fun p => if h0 : p < 53 then mvOkR_at mp_222_0 p (by omega) (by omega) else mvOk_no (ml_222 p (by omega))
theorem mt_222 : mvOkT 222 = true := by decide +kernel
theorem mp_223_0 : mvOkR 223 0 83 = true := by decide +kernel
theorem ml_223 : ∀ p, 83 ≤ p → mvC 223 p = mvNo := fun p h => (show mc_223 p = mvNo by unfold mc_223; rw [Nat.ble_eq_true_of_le h]; rfl)
theorem mk_223 : ∀ p, mvOk 223 p = true := fun p => if h0 : p < 83 then mvOkR_at mp_223_0 p (by omega) (by omega) else mvOk_no (ml_223 p (by omega))
theorem mt_223 : mvOkT 223 = true := by decide +kernel
theorem mp_224_0 : mvOkR 224 0 84 = true := by decide +kernel
theorem ml_224 : ∀ p, 84 ≤ p → mvC 224 p = mvNo := fun p h => (show mc_224 p = mvNo by unfold mc_224; rw [Nat.ble_eq_true_of_le h]; rfl)
theorem mk_224 : ∀ p, mvOk 224 p = true := fun p => if h0 : p < 84 then mvOkR_at mp_224_0 p (by omega) (by omega) else mvOk_no (ml_224 p (by omega))
theorem mt_224 : mvOkT 224 = true := by decide +kernel
theorem mp_225_0 : mvOkR 225 0 94 = true := by decide +kernel
theorem ml_225 : ∀ p, 94 ≤ p → mvC 225 p = mvNo := fun p h => (show mc_225 p = mvNo by unfold mc_225; rw [Nat.ble_eq_true_of_le h]; rfl)
theorem mk_225 : ∀ p, mvOk 225 p = true := fun p => if h0 : p < 94 then mvOkR_at mp_225_0 p (by omega) (by omega) else mvOk_no (ml_225 p (by omega))
theorem mt_225 : mvOkT 225 = true := by decide +kernel
theorem mp_226_0 : mvOkR 226 0 53 = true := by decide +kernel
theorem ml_226 : ∀ p, 53 ≤ p → mvC 226 p = mvNo := fun p h => (show mc_226 p = mvNo by unfold mc_226; rw [Nat.ble_eq_true_of_le h]; rfl)
theorem mk_226 : ∀ p, mvOk 226 p = true := fun p => if h0 : p < 53 then mvOkR_at mp_226_0 p (by omega) (by omega) else mvOk_no (ml_226 p (by omega))
theorem mt_226 : mvOkT 226 = true := by decide +kernel
theorem mp_227_0 : mvOkR 227 0 120 = true := by decide +kernel
theorem mp_227_1 : mvOkR 227 120 12 = true := by decide +kernel
theorem ml_227 : ∀ p, 132 ≤ p → mvC 227 p = mvNo := fun p h => (show mc_227 p = mvNo by unfold mc_227; rw [Nat.ble_eq_true_of_le h]; rfl)
theorem mk_227 : ∀ p, mvOk 227 p = true := fun p => if h0 : p < 120 then mvOkR_at mp_227_0 p (by omega) (by omega) else if h1 : p < 132 then mvOkR_at mp_227_1 p (by omega) (by omega) else mvOk_no (ml_227 p (by omega))
theorem mt_227 : mvOkT 227 = true := by decide +kernel
theorem mp_228_0 : mvOkR 228 0 79 = true := by decide +kernel
theorem ml_228 : ∀ p, 79 ≤ p → mvC 228 p = mvNo := fun p h => (show mc_228 p = mvNo by unfold mc_228; rw [Nat.ble_eq_true_of_le h]; rfl)
theorem mk_228 : ∀ p, mvOk 228 p = true := fun p => if h0 : p < 79 then mvOkR_at mp_228_0 p (by omega) (by omega) else mvOk_no (ml_228 p (by omega))
theorem mt_228 : mvOkT 228 = true := by decide +kernel
theorem mp_229_0 : mvOkR 229 0 120 = true := by decide +kernel
theorem mp_229_1 : mvOkR 229 120 120 = true := by decide +kernel
theorem mp_229_2 : mvOkR 229 240 1 = true := by decide +kernel
theorem ml_229 : ∀ p, 241 ≤ p → mvC 229 p = mvNo := fun p h => (show mc_229 p = mvNo by unfold mc_229; rw [Nat.ble_eq_true_of_le h]; rfl)
theorem mk_229 : ∀ p, mvOk 229 p = true := fun p => if h0 : p < 120 then mvOkR_at mp_229_0 p (by omega) (by omega) else if h1 : p < 240 then mvOkR_at mp_229_1 p (by omega) (by omega) else if h2 : p < 241 then mvOkR_at mp_229_2 p (by omega) (by omega) else mvOk_no (ml_229 p (by omega))
theorem mt_229 : mvOkT 229 = true := by decide +kernel
theorem mp_230_0 : mvOkR 230 0 120 = true := by decide +kernel
theorem mp_230_1 : mvOkR 230 120 120 = true := by decide +kernel
theorem mp_230_2 : mvOkR 230 240 16 = true := by decide +kernel
theorem ml_230 : ∀ p, 256 ≤ p → mvC 230 p = mvNo := fun p h => (show mc_230 p = mvNo by unfold mc_230; rw [Nat.ble_eq_true_of_le h]; rfl)
theorem mk_230 : ∀ p, mvOk 230 p = true := fun p => if h0 : p < 120 then mvOkR_at mp_230_0 p (by omega) (by omega) else if h1 : p < 240 then mvOkR_at mp_230_1 p (by omega) (by omega) else if h2 : p < 256 then mvOkR_at mp_230_2 p (by omega) (by omega) else mvOk_no (ml_230 p (by omega))
theorem mt_230 : mvOkT 230 = true := by decide +kernel
theorem mp_231_0 : mvOkR 231 0 84 = true := by decide +kernel
theorem ml_231 : ∀ p, 84 ≤ p → mvC 231 p = mvNo := fun p h => (show mc_231 p = mvNo by unfold mc_231; rw [Nat.ble_eq_true_of_le h]; rfl)
theorem mk_231 : ∀ p, mvOk 231 p = true := fun p => if h0 : p < 84 then mvOkR_at mp_231_0 p (by omega) (by omega) else mvOk_no (ml_231 p (by omega))
theorem mt_231 : mvOkT 231 = true := by decide +kernel
theorem mp_232_0 : mvOkR 232 0 47 = true := by decide +kernel
theorem ml_232 : ∀ p, 47 ≤ p → mvC 232 p = mvNo := fun p h => (show mc_232 p = mvNo by unfold mc_232; rw [Nat.ble_eq_true_of_le h]; rfl)
theorem mk_232 : ∀ p, mvOk 232 p = true := fun p => if h0 : p < 47 then mvOkR_at mp_232_0 p (by omega) (by omega) else mvOk_no (ml_232 p (by omega))
theorem mt_232 : mvOkT 232 = true := by decide +kernel
theorem mp_233_0 : mvOkR 233 0 53 = true := by decide +kernel
theorem ml_233 : ∀ p, 53 ≤ p → mvC 233 p = mvNo := fun p h => (show mc_233 p = mvNo by unfold mc_233; rw [Nat.ble_eq_true_of_le h]; rfl)
theorem mk_233 : ∀ p, mvOk 233 p = true := fun p => if h0 : p < 53 then mvOkR_at mp_233_0 p (by omega) (by omega) else mvOk_no (ml_233 p (by omega))
theorem mt_233 : mvOkT 233 = true := by decide +kernel
theorem mp_234_0 : mvOkR 234 0 25 = true := by decide +kernel
theorem ml_234 : ∀ p, 25 ≤ p → mvC 234 p = mvNo := fun p h => (show mc_234 p = mvNo by unfold mc_234; rw [Nat.ble_eq_true_of_le h]; rfl)
theorem mk_234 : ∀ p, mvOk 234 p = true := fun p => if h0 : p < 25 then mvOkR_at mp_234_0 p (by omega) (by omega) else mvOk_no (ml_234 p (by omega))
theorem mt_234 : mvOkT 234 = true := by decide +kernel
theorem mp_235_0 : mvOkR 235 0 27 = true := by decide +kernel
theorem ml_235 : ∀ p, 27 ≤ p → mvC 235 p = mvNo := fun p h => (show mc_235 p = mvNo by unfold mc_235; rw [Nat.ble_eq_true_of_le h]; rfl)
theorem mk_235 : ∀ p, mvOk 235 p = true := fun p => if h0 : p < 27 then mvOkR_at mp_235_0 p (by omega) (by omega) else mvOk_no (ml_235 p (by omega))
theorem mt_235 : mvOkT 235 = true := by decide +kernel
theorem mp_236_0 : mvOkR 236 0 120 = true := by decide +kernel
theorem mp_236_1 : mvOkR 236 120 66 = true := by decide +kernel
theorem ml_236 : ∀ p, 186 ≤ p → mvC 236 p = mvNo := fun p h => (show mc_236 p = mvNo by unfold mc_236; rw [Nat.ble_eq_true_of_le h]; rfl)
theorem mk_236 : ∀ p, mvOk 236 p = true := fun p => if h0 : p < 120 then mvOkR_at mp_236_0 p (by omega) (by omega) else if h1 : p < 186 then mvOkR_at mp_236_1 p (by omega) (by omega) else mvOk_no (ml_236 p (by omega))
theorem mt_236 : mvOkT 236 = true := by decide +kernel
theorem mp_237_0 : mvOkR 237 0 24 = true := by decide +kernel
theorem ml_237 : ∀ p, 24 ≤ p → mvC 237 p = mvNo := fun p h => (show mc_237 p = mvNo by unfold mc_237; rw [Nat.ble_eq_true_of_le h]; rfl)
theorem mk_237 : ∀ p, mvOk 237 p = true := fun p => if h0 : p < 24 then mvOkR_at mp_237_0 p (by omega) (by omega) else mvOk_no (ml_237 p (by omega))
theorem mt_237 : mvOkT 237 = true := by decide +kernel
theorem mp_238_0 : mvOkR 238 0 25 = true := by decide +kernel
theorem ml_238 : ∀ p, 25 ≤ p → mvC 238 p = mvNo := fun p h => (show mc_238 p = mvNo by unfold mc_238; rw [Nat.ble_eq_true_of_le h]; rfl)
theorem mk_238 : ∀ p, mvOk 238 p = true := fun p => if h0 : p < 25 then mvOkR_at mp_238_0 p (by omega) (by omega) else mvOk_no (ml_238 p (by omega))
theorem mt_238 : mvOkT 238 = true := by decide +kernel
theorem mp_239_0 : mvOkR 239 0 120 = true := by decide +kernel
theorem mp_239_1 : mvOkR 239 120 87 = true := by decide +kernel
theorem ml_239 : ∀ p, 207 ≤ p → mvC 239 p = mvNo := fun p h => (show mc_239 p = mvNo by unfold mc_239; rw [Nat.ble_eq_true_of_le h]; rfl)
theorem mk_239 : ∀ p, mvOk 239 p = true := fun p => if h0 : p < 120 then mvOkR_at mp_239_0 p (by omega) (by omega) else if h1 : p < 207 then mvOkR_at mp_239_1 p (by omega) (by omega) else mvOk_no (ml_239 p (by omega))
theorem mt_239 : mvOkT 239 = true := by decide +kernel
theorem mp_240_0 : mvOkR 240 0 27 = true := by decide +kernel
theorem ml_240 : ∀ p, 27 ≤ p → mvC 240 p = mvNo := fun p h => (show mc_240 p = mvNo by unfold mc_240; rw [Nat.ble_eq_true_of_le h]; rfl)
theorem mk_240 : ∀ p, mvOk 240 p = true := fun p => if h0 : p < 27 then mvOkR_at mp_240_0 p (by omega) (by omega) else mvOk_no (ml_240 p (by omega))
theorem mt_240 : mvOkT 240 = true := by decide +kernel
