/-! the rows of the program, checked by the kernel -/
theorem mp_241_0 : mvOkR 241 0 24 = true := by decide +kernel
theorem ml_241 : ∀ p, 24 ≤ p → mvC 241 p = mvNo := fun p h => (show mc_241 p = mvNo by unfold mc_241; rw [Nat.ble_eq_true_of_le h]; rfl)
theorem mk_241 : ∀ p, mvOk 241 p = true := fun p => if h0 : p < 24 then mvOkR_at mp_241_0 p (by omega) (by omega) else mvOk_no (ml_241 p (by omega))
theorem mt_241 : mvOkT 241 = true := by decide +kernel
theorem mp_242_0 : mvOkR 242 0 47 = true := by decide +kernel
theorem ml_242 : ∀ p, 47 ≤ p → mvC 242 p = mvNo := fun p h => (show mc_242 p = mvNo by unfold mc_242; rw [Nat.ble_eq_true_of_le h]; rfl)
theorem mk_242 : ∀ p, mvOk 242 p = true := fun p => if h0 : p < 47 then mvOkR_at mp_242_0 p (by omega) (by omega) else mvOk_no (ml_242 p (by omega))
theorem mt_242 : mvOkT 242 = true := by decide +kernel
theorem mp_243_0 : mvOkR 243 0 14 = true := by decide +kernel
theorem ml_243 : ∀ p, 14 ≤ p → mvC 243 p = mvNo := fun p h => (show mc_243 p = mvNo by unfold mc_243; rw [Nat.ble_eq_true_of_le h]; rfl)
theorem mk_243 : ∀ p, mvOk 243 p = true := fun p => if h0 : p < 14 then mvOkR_at mp_243_0 p (by omega) (by omega) else mvOk_no (ml_243 p (by omega))
theorem mt_243 : mvOkT 243 = true := by decide +kernel
theorem mp_244_0 : mvOkR 244 0 12 = true := by decide +kernel
theorem ml_244 : ∀ p, 12 ≤ p → mvC 244 p = mvNo := fun p h => (show mc_244 p = mvNo by unfold mc_244; rw [Nat.ble_eq_true_of_le h]; rfl)
theorem mk_244 : ∀ p, mvOk 244 p = true := fun p => if h0 : p < 12 then mvOkR_at mp_244_0 p (by omega) (by omega) else mvOk_no (ml_244 p (by omega))
theorem mt_244 : mvOkT 244 = true := by decide +kernel
theorem mp_245_0 : mvOkR 245 0 120 = true := by decide +kernel
theorem mp_245_1 : mvOkR 245 120 11 = true := by decide +kernel
theorem ml_245 : ∀ p, 131 ≤ p → mvC 245 p = mvNo := fun p h => (show mc_245 p = mvNo by unfold mc_245; rw [Nat.ble_eq_true_of_le h]; rfl)
theorem mk_245 : ∀ p, mvOk 245 p = true := fun p => if h0 : p < 120 then mvOkR_at mp_245_0 p (by omega) (by omega) else if h1 : p < 131 then mvOkR_at mp_245_1 p (by omega) (by omega) else mvOk_no (ml_245 p (by omega))
theorem mt_245 : mvOkT 245 = true := by decide +kernel
theorem mp_246_0 : mvOkR 246 0 36 = true := by decide +kernel
theorem ml_246 : ∀ p, 36 ≤ p → mvC 246 p = mvNo := fun p h => (show mc_246 p = mvNo by unfold mc_246; rw [Nat.ble_eq_true_of_le h]; rfl)
theorem mk_246 : ∀ p, mvOk 246 p = true := fun p => if h0 : p < 36 then mvOkR_at mp_246_0 p (by omega) (by omega) else mvOk_no (ml_246 p (by omega))
theorem mt_246 : mvOkT 246 = true := by decide +kernel
theorem mp_247_0 : mvOkR 247 0 37 = true := by decide +kernel
theorem ml_247 : ∀ p, 37 ≤ p → mvC 247 p = mvNo := fun p h => (show mc_247 p = mvNo by unfold mc_247; rw [Nat.ble_eq_true_of_le h]; rfl)
theorem mk_247 : ∀ p, mvOk 247 p = true := fun p => if h0 : p < 37 then mvOkR_at mp_247_0 p (by omega) (by omega) else mvOk_no (ml_247 p (by omega))
theorem mt_247 : mvOkT 247 = true := by decide +kernel
theorem mp_248_0 : mvOkR 248 0 65 = true := by decide +kernel
theorem ml_248 : ∀ p, 65 ≤ p → mvC 248 p = mvNo := fun p h => (show mc_248 p = mvNo by unfold mc_248; rw [Nat.ble_eq_true_of_le h]; rfl)
theorem mk_248 : ∀ p, mvOk 248 p = true := fun p => if h0 : p < 65 then mvOkR_at mp_248_0 p (by omega) (by omega) else mvOk_no (ml_248 p (by omega))
theorem mt_248 : mvOkT 248 = true := by decide +kernel
theorem mp_249_0 : mvOkR 249 0 42 = true := by decide +kernel
theorem ml_249 : ∀ p, 42 ≤ p → mvC 249 p = mvNo := fun p h => (show mc_249 p = mvNo by unfold mc_249; rw [Nat.ble_eq_true_of_le h]; rfl)
theorem mk_249 : ∀ p, mvOk 249 p = true := fun p => if h0 : p < 42 then mvOkR_at mp_249_0 p (by omega) (by omega) else mvOk_no (ml_249 p (by omega))
theorem mt_249 : mvOkT 249 = true := by decide +kernel
theorem mp_250_0 : mvOkR 250 0 43 = true := by decide +kernel
theorem ml_250 : ∀ p, 43 ≤ p → mvC 250 p = mvNo := fun p h => (show mc_250 p = mvNo by unfold mc_250; rw [Nat.ble_eq_true_of_le h]; rfl)
theorem mk_250 : ∀ p, mvOk 250 p = true := fun p => if h0 : p < 43 then mvOkR_at mp_250_0 p (by omega) (by omega) else mvOk_no (ml_250 p (by omega))
theorem mt_250 : mvOkT 250 = true := by decide +kernel
theorem mp_251_0 : mvOkR 251 0 75 = true := by decide +kernel
theorem ml_251 : ∀ p, 75 ≤ p → mvC 251 p = mvNo := fun p h => (show mc_251 p = mvNo by unfold mc_251; rw [Nat.ble_eq_true_of_le h]; rfl)
theorem mk_251 : ∀ p, mvOk 251 p = true := fun p => if h0 : p < 75 then mvOkR_at mp_251_0 p (by omega) (by omega) else mvOk_no (ml_251 p (by omega))
theorem mt_251 : mvOkT 251 = true := by decide +kernel
theorem mp_252_0 : mvOkR 252 0 86 = true := by decide +kernel
theorem ml_252 : ∀ p, 86 ≤ p → mvC 252 p = mvNo := fun p h => (show mc_252 p = mvNo by unfold mc_252; rw [Nat.ble_eq_true_of_le h]; rfl)
theorem mk_252 : ∀ p, mvOk 252 p = true := fun p => if h0 : p < 86 then mvOkR_at mp_252_0 p (by omega) (by omega) else mvOk_no (ml_252 p (by omega))
theorem mt_252 : mvOkT 252 = true := by decide +kernel
theorem mp_253_0 : mvOkR 253 0 19 = true := by decide +kernel
theorem ml_253 : ∀ p, 19 ≤ p → mvC 253 p = mvNo := fun p h => (show mc_253 p = mvNo by unfold mc_253; rw [Nat.ble_eq_true_of_le h]; rfl)
theorem mk_253 : ∀ p, mvOk 253 p = true := fun p => if h0 : p < 19 then mvOkR_at mp_253_0 p (by omega) (by omega) else mvOk_no (ml_253 p (by omega))
theorem mt_253 : mvOkT 253 = true := by decide +kernel
theorem mp_254_0 : mvOkR 254 0 14 = true := by decide +kernel
theorem ml_254 : ∀ p, 14 ≤ p → mvC 254 p = mvNo := fun p h => (show mc_254 p = mvNo by unfold mc_254; rw [Nat.ble_eq_true_of_le h]; rfl)
theorem mk_254 : ∀ p, mvOk 254 p = true := fun p => if h0 : p < 14 then mvOkR_at mp_254_0 p (by omega) (by omega) else mvOk_no (ml_254 p (by omega))
theorem mt_254 : mvOkT 254 = true := by decide +kernel
theorem mp_255_0 : mvOkR 255 0 15 = true := by decide +kernel
theorem ml_255 : ∀ p, 15 ≤ p → mvC 255 p = mvNo := fun p h => (show mc_255 p = mvNo by unfold mc_255; rw [Nat.ble_eq_true_of_le h]; rfl)
theorem mk_255 : ∀ p, mvOk 255 p = true := fun p => if h0 : p < 15 then mvOkR_at mp_255_0 p (by omega) (by omega) else mvOk_no (ml_255 p (by omega))
theorem mt_255 : mvOkT 255 = true := by decide +kernel
theorem mp_256_0 : mvOkR 256 0 38 = true := by decide +kernel
theorem ml_256 : ∀ p, 38 ≤ p → mvC 256 p = mvNo := fun p h => (show mc_256 p = mvNo by unfold mc_256; rw [Nat.ble_eq_true_of_le h]; rfl)
theorem mk_256 : ∀ p, mvOk 256 p = true := fun p => if h0 : p < 38 then mvOkR_at mp_256_0 p (by omega) (by omega) else mvOk_no (ml_256 p (by omega))
theorem mt_256 : mvOkT 256 = true := by decide +kernel
theorem mp_257_0 : mvOkR 257 0 86 = true := by decide +kernel
theorem ml_257 : ∀ p, 86 ≤ p → mvC 257 p = mvNo := fun p h => (show mc_257 p = mvNo by unfold mc_257; rw [Nat.ble_eq_true_of_le h]; rfl)
theorem mk_257 : ∀ p, mvOk 257 p = true := fun p => if h0 : p < 86 then mvOkR_at mp_257_0 p (by omega) (by omega) else mvOk_no (ml_257 p (by omega))
theorem mt_257 : mvOkT 257 = true := by decide +kernel
theorem mp_258_0 : mvOkR 258 0 31 = true := by decide +kernel
theorem ml_258 : ∀ p, 31 ≤ p → mvC 258 p = mvNo := fun p h => (show mc_258 p = mvNo by unfold mc_258; rw [Nat.ble_eq_true_of_le h]; rfl)
theorem mk_258 : ∀ p, mvOk 258 p = true := fun p => if h0 : p < 31 then mvOkR_at mp_258_0 p (by omega) (by omega) else mvOk_no (ml_258 p (by omega))
theorem mt_258 : mvOkT 258 = true := by decide +kernel
theorem mp_259_0 : mvOkR 259 0 72 = true := by decide +kernel
theorem ml_259 : ∀ p, 72 ≤ p → mvC 259 p = mvNo := fun p h => (show mc_259 p = mvNo by unfold mc_259; rw [Nat.ble_eq_true_of_le h]; rfl)
theorem mk_259 : ∀ p, mvOk 259 p = true := fun p => if h0 : p < 72 then mvOkR_at mp_259_0 p (by omega) (by omega) else mvOk_no (ml_259 p (by omega))
theorem mt_259 : mvOkT 259 = true := by decide +kernel
theorem mp_260_0 : mvOkR 260 0 120 = true := by decide +kernel
theorem mp_260_1 : mvOkR 260 120 120 = true := by decide +kernel
theorem mp_260_2 : mvOkR 260 240 120 = true := by decide +kernel
theorem mp_260_3 : mvOkR 260 360 53 = true := by decide +kernel
theorem ml_260 : ∀ p, 413 ≤ p → mvC 260 p = mvNo := fun p h => (show mc_260 p = mvNo by unfold mc_260; rw [Nat.ble_eq_true_of_le h]; rfl)
theorem mk_260 : ∀ p, mvOk 260 p = true := fun p => if h0 : p < 120 then mvOkR_at mp_260_0 p (by omega) (by omega) else if h1 : p < 240 then mvOkR_at mp_260_1 p (by omega) (by omega) else if h2 : p < 360 then mvOkR_at mp_260_2 p (by omega) (by omega) else if h3 : p < 413 then mvOkR_at mp_260_3 p (by omega) (by omega) else mvOk_no (ml_260 p (by omega))
theorem mt_260 : mvOkT 260 = true := by decide +kernel
theorem mp_261_0 : mvOkR 261 0 27 = true := by decide +kernel
theorem ml_261 : ∀ p, 27 ≤ p → mvC 261 p = mvNo := fun p h => (show mc_261 p = mvNo by unfold mc_261; rw [Nat.ble_eq_true_of_le h]; rfl)
theorem mk_261 : ∀ p, mvOk 261 p = true := fun p => if h0 : p < 27 then mvOkR_at mp_261_0 p (by omega) (by omega) else mvOk_no (ml_261 p (by omega))
theorem mt_261 : mvOkT 261 = true := by decide +kernel
theorem mp_262_0 : mvOkR 262 0 8 = true := by decide +kernel
theorem ml_262 : ∀ p, 8 ≤ p → mvC 262 p = mvNo := fun p h => (show mc_262 p = mvNo by unfold mc_262; rw [Nat.ble_eq_true_of_le h]; rfl)
theorem mk_262 : ∀ p, mvOk 262 p = true := fun p => if h0 : p < 8 then mvOkR_at mp_262_0 p (by omega) (by omega) else mvOk_no (ml_262 p (by omega))
theorem mt_262 : mvOkT 262 = true := by decide +kernel
theorem mp_263_0 : mvOkR 263 0 66 = true := by decide +kernel
theorem ml_263 : ∀ p, 66 ≤ p → mvC 263 p = mvNo := fun p h => (show mc_263 p = mvNo by unfold mc_263; rw [Nat.ble_eq_true_of_le h]; rfl)
theorem mk_263 : ∀ p, mvOk 263 p = true := fun p => if h0 : p < 66 then mvOkR_at mp_263_0 p (by omega) (by omega) else mvOk_no (ml_263 p (by omega))
theorem mt_263 : mvOkT 263 = true := by decide +kernel
theorem mp_264_0 : mvOkR 264 0 30 = true := by decide +kernel
theorem ml_264 : ∀ p, 30 ≤ p → mvC 264 p = mvNo := fun p h => (show mc_264 p = mvNo by unfold mc_264; rw [Nat.ble_eq_true_of_le h]; rfl)
theorem mk_264 : ∀ p, mvOk 264 p = true := fun p => if h0 : p < 30 then mvOkR_at mp_264_0 p (by omega) (by omega) else mvOk_no (ml_264 p (by omega))
theorem mt_264 : mvOkT 264 = true := by decide +kernel
theorem mp_265_0 : mvOkR 265 0 112 = true := by decide +kernel
theorem ml_265 : ∀ p, 112 ≤ p → mvC 265 p = mvNo := fun p h => (show mc_265 p = mvNo by unfold mc_265; rw [Nat.ble_eq_true_of_le h]; rfl)
theorem mk_265 : ∀ p, mvOk 265 p = true := fun p => if h0 : p < 112 then mvOkR_at mp_265_0 p (by omega) (by omega) else mvOk_no (ml_265 p (by omega))
theorem mt_265 : mvOkT 265 = true := by decide +kernel
theorem mp_266_0 : mvOkR 266 0 36 = true := by decide +kernel
theorem ml_266 : ∀ p, 36 ≤ p → mvC 266 p = mvNo := fun p h => (show mc_266 p = mvNo by unfold mc_266; rw [Nat.ble_eq_true_of_le h]; rfl)
theorem mk_266 : ∀ p, mvOk 266 p = true := fun p => if h0 : p < 36 then mvOkR_at mp_266_0 p (by omega) (by omega) else mvOk_no (ml_266 p (by omega))
theorem mt_266 : mvOkT 266 = true := by decide +kernel
theorem mp_267_0 : mvOkR 267 0 25 = true := by decide +kernel
theorem ml_267 : ∀ p, 25 ≤ p → mvC 267 p = mvNo := fun p h => (show mc_267 p = mvNo by unfold mc_267; rw [Nat.ble_eq_true_of_le h]; rfl)
theorem mk_267 : ∀ p, mvOk 267 p = true := fun p => if h0 : p < 25 then mvOkR_at mp_267_0 p (by omega) (by omega) else mvOk_no (ml_267 p (by omega))
theorem mt_267 : mvOkT 267 = true := by decide +kernel
theorem mp_268_0 : mvOkR 268 0 120 = true := by decide +kernel
theorem mp_268_1 : mvOkR 268 120 6 = true := by decide +kernel
theorem ml_268 : ∀ p, 126 ≤ p → mvC 268 p = mvNo := fun p h => (show mc_268 p = mvNo by unfold mc_268; rw [Nat.ble_eq_true_of_le h]; rfl)
theorem mk_268 : ∀ p, mvOk 268 p = true := fun p => if h0 : p < 120 then mvOkR_at mp_268_0 p (by omega) (by omega) else if h1 : p < 126 then mvOkR_at mp_268_1 p (by omega) (by omega) else mvOk_no (ml_268 p (by omega))
theorem mt_268 : mvOkT 268 = true := by decide +kernel
theorem mp_269_0 : mvOkR 269 0 72 = true := by decide +kernel
theorem ml_269 : ∀ p, 72 ≤ p → mvC 269 p = mvNo := fun p h => (show mc_269 p = mvNo by unfold mc_269; rw [Nat.ble_eq_true_of_le h]; rfl)
theorem mk_269 : ∀ p, mvOk 269 p = true := fun p => if h0 : p < 72 then mvOkR_at mp_269_0 p (by omega) (by omega) else mvOk_no (ml_269 p (by omega))
theorem mt_269 : mvOkT 269 = true := by decide +kernel
theorem mp_270_0 : mvOkR 270 0 29 = true := by decide +kernel
theorem ml_270 : ∀ p, 29 ≤ p → mvC 270 p = mvNo := fun p h => (show mc_270 p = mvNo by unfold mc_270; rw [Nat.ble_eq_true_of_le h]; rfl)
theorem mk_270 : ∀ p, mvOk 270 p = true := fun p => if h0 : p < 29 then mvOkR_at mp_270_0 p (by omega) (by omega) else mvOk_no (ml_270 p (by omega))
theorem mt_270 : mvOkT 270 = true := by decide +kernel
theorem mp_271_0 : mvOkR 271 0 120 = true := by decide +kernel
theorem mp_271_1 : mvOkR 271 120 2 = true := by decide +kernel
theorem ml_271 : ∀ p, 122 ≤ p → mvC 271 p = mvNo := fun p h => (show mc_271 p = mvNo by unfold mc_271; rw [Nat.ble_eq_true_of_le h]; rfl)
theorem mk_271 : ∀ p, mvOk 271 p = true := fun p => if h0 : p < 120 then mvOkR_at mp_271_0 p (by omega) (by omega) else if h1 : p < 122 then mvOkR_at mp_271_1 p (by omega) (by omega) else mvOk_no (ml_271 p (by omega))
theorem mt_271 : mvOkT 271 = true := by decide +kernel
theorem mp_272_0 : mvOkR 272 0 63 = true := by decide +kernel
theorem ml_272 : ∀ p, 63 ≤ p → mvC 272 p = mvNo := fun p h => (show mc_272 p = mvNo by unfold mc_272; rw [Nat.ble_eq_true_of_le h]; rfl)
theorem mk_272 : ∀ p, mvOk 272 p = true := fun p => if h0 : p < 63 then mvOkR_at mp_272_0 p (by omega) (by omega) else mvOk_no (ml_272 p (by omega))
theorem mt_272 : mvOkT 272 = true := by decide +kernel
theorem mp_273_0 : mvOkR 273 0 120 = true := by decide +kernel
theorem mp_273_1 : mvOkR 273 120 3 = true := by decide +kernel
theorem ml_273 : ∀ p, 123 ≤ p → mvC 273 p = mvNo := fun p h => (show mc_273 p = mvNo by unfold mc_273; rw [Nat.ble_eq_true_of_le h]; rfl)
theorem mk_273 : ∀ p, mvOk 273 p = true := fun p => if h0 : p < 120 then mvOkR_at mp_273_0 p (by omega) (by omega) else if h1 : p < 123 then mvOkR_at mp_273_1 p (by omega) (by omega) else mvOk_no (ml_273 p (by omega))
theorem mt_273 : mvOkT 273 = true := by decide +kernel
theorem mp_274_0 : mvOkR 274 0 81 = true := by decide +kernel
theorem ml_274 : ∀ p, 81 ≤ p → mvC 274 p = mvNo := fun p h => (show mc_274 p = mvNo by unfold mc_274; rw [Nat.ble_eq_true_of_le h]; rfl)
theorem mk_274 : ∀ p, mvOk 274 p = true := fun p => if h0 : p < 81 then mvOkR_at mp_274_0 p (by omega) (by omega) else mvOk_no (ml_274 p (by omega))
theorem mt_274 : mvOkT 274 = true := by decide +kernel
theorem mp_275_0 : mvOkR 275 0 120 = true := by decide +kernel
theorem mp_275_1 : mvOkR 275 120 20 = true := by decide +kernel
theorem ml_275 : ∀ p, 140 ≤ p → mvC 275 p = mvNo := fun p h => (show mc_275 p = mvNo by unfold mc_275; rw [Nat.ble_eq_true_of_le h]; rfl)
theorem mk_275 : ∀ p, mvOk 275 p = true := fun p => if h0 : p < 120 then mvOkR_at mp_275_0 p (by omega) (by omega) else if h1 : p < 140 then mvOkR_at mp_275_1 p (by omega) (by omega) else mvOk_no (ml_275 p (by omega))
theorem mt_275 : mvOkT 275 = true := by decide +kernel
theorem mp_276_0 : mvOkR 276 0 52 = true := by decide +kernel
theorem ml_276 : ∀ p, 52 ≤ p → mvC 276 p = mvNo := fun p h => (show mc_276 p = mvNo by unfold mc_276; rw [Nat.ble_eq_true_of_le h]; rfl)
theorem mk_276 : ∀ p, mvOk 276 p = true := fun p => if h0 : p < 52 then mvOkR_at mp_276_0 p (by omega) (by omega) else mvOk_no (ml_276 p (by omega))
theorem mt_276 : mvOkT 276 = true := by decide +kernel
theorem mp_277_0 : mvOkR 277 0 91 = true := by decide +kernel
theorem ml_277 : ∀ p, 91 ≤ p → mvC 277 p = mvNo := fun p h => (show mc_277 p = mvNo by unfold mc_277; rw [Nat.ble_eq_true_of_le h]; rfl)
theorem mk_277 : ∀ p, mvOk 277 p = true := fun p => if h0 : p < 91 then mvOkR_at mp_277_0 p (by omega) (by omega) else mvOk_no (ml_277 p (by omega))
theorem mt_277 : mvOkT 277 = true := by decide +kernel
theorem mp_278_0 : mvOkR 278 0 97 = true := by decide +kernel
theorem ml_278 : ∀ p, 97 ≤ p → mvC 278 p = mvNo := fun p h => (show mc_278 p = mvNo by unfold mc_278; rw [Nat.ble_eq_true_of_le h]; rfl)
theorem mk_278 : ∀ p, mvOk 278 p = true := fun p => if h0 : p < 97 then mvOkR_at mp_278_0 p (by omega) (by omega) else mvOk_no (ml_278 p (by omega))
theorem mt_278 : mvOkT 278 = true := by decide +kernel
theorem mp_279_0 : mvOkR 279 0 51 = true := by decide +kernel
theorem ml_279 : ∀ p, 51 ≤ p → mvC 279 p = mvNo := fun p h => (show mc_279 p = mvNo by unfold mc_279; rw [Nat.ble_eq_true_of_le h]; rfl)
theorem mk_279 : ∀ p, mvOk 279 p = true := fun p => if h0 : p < 51 then mvOkR_at mp_279_0 p (by omega) (by omega) else mvOk_no (ml_279 p (by omega))
theorem mt_279 : mvOkT 279 = true := by decide +kernel
theorem mp_280_0 : mvOkR 280 0 59 = true := by decide +kernel
theorem ml_280 : ∀ p, 59 ≤ p → mvC 280 p = mvNo := fun p h => (show mc_280 p = mvNo by unfold mc_280; rw [Nat.ble_eq_true_of_le h]; rfl)
theorem mk_280 : ∀ p, mvOk 280 p = true := fun p => if h0 : p < 59 then mvOkR_at mp_280_0 p (by omega) (by omega) else mvOk_no (ml_280 p (by omega))
theorem mt_280 : mvOkT 280 = true := by decide +kernel
theorem mp_281_0 : mvOkR 281 0 62 = true := by decide +kernel
theorem ml_281 : ∀ p, 62 ≤ p → mvC 281 p = mvNo := fun p h => (show mc_281 p = mvNo by unfold mc_281; rw [Nat.ble_eq_true_of_le h]; rfl)
theorem mk_281 : ∀ p, mvOk 281 p = true := fun p => if h0 : p < 62 then mvOkR_at mp_281_0 p (by omega) (by omega) else mvOk_no (ml_281 p (by omega))
theorem mt_281 : mvOkT 281 = true := by decide +kernel
theorem mp_282_0 : mvOkR 282 0 44 = true := by decide +kernel
theorem ml_282 : ∀ p, 44 ≤ p → mvC 282 p = mvNo := fun p h => (show mc_282 p = mvNo by unfold mc_282; rw [Nat.ble_eq_true_of_le h]; rfl)
theorem mk_282 : ∀ p, mvOk 282 p = true := fun p => if h0 : p < 44 then mvOkR_at mp_282_0 p (by omega) (by omega) else mvOk_no (ml_282 p (by omega))
theorem mt_282 : mvOkT 282 = true := by decide +kernel
theorem mp_283_0 : mvOkR 283 0 95 = true := by decide +kernel
theorem ml_283 : ∀ p, 95 ≤ p → mvC 283 p = mvNo := fun p h => (show mc_283 p = mvNo by unfold mc_283; rw [Nat.ble_eq_true_of_le h]; rfl)
theorem mk_283 : ∀ p, mvOk 283 p = true := fun p => if h0 : p < 95 then mvOkR_at mp_283_0 p (by omega) (by omega) else mvOk_no (ml_283 p (by omega))
theorem mt_283 : mvOkT 283 = true := by decide +kernel
theorem mp_284_0 : mvOkR 284 0 43 = true := by decide +kernel
theorem ml_284 : ∀ p, 43 ≤ p → mvC 284 p = mvNo := fun p h => (show mc_284 p = mvNo by unfold mc_284; rw [Nat.ble_eq_true_of_le h]; rfl)
theorem mk_284 : ∀ p, mvOk 284 p = true := fun p => if h0 : p < 43 then mvOkR_at mp_284_0 p (by omega) (by omega) else mvOk_no (ml_284 p (by omega))
theorem mt_284 : mvOkT 284 = true := by decide +kernel
theorem mp_285_0 : mvOkR 285 0 44 = true := by decide +kernel
theorem ml_285 : ∀ p, 44 ≤ p → mvC 285 p = mvNo := fun p h => (show mc_285 p = mvNo by unfold mc_285; rw [Nat.ble_eq_true_of_le h]; rfl)
theorem mk_285 : ∀ p, mvOk 285 p = true := fun p => if h0 : p < 44 then mvOkR_at mp_285_0 p (by omega) (by omega) else mvOk_no (ml_285 p (by omega))
theorem mt_285 : mvOkT 285 = true := by decide +kernel
theorem mp_286_0 : mvOkR 286 0 111 = true := by decide +kernel
theorem ml_286 : ∀ p, 111 ≤ p → mvC 286 p = mvNo := fun p h => (show mc_286 p = mvNo by unfold mc_286; rw [Nat.ble_eq_true_of_le h]; rfl)
theorem mk_286 : ∀ p, mvOk 286 p = true := fun p => if h0 : p < 111 then mvOkR_at mp_286_0 p (by omega) (by omega) else mvOk_no (ml_286 p (by omega))
theorem mt_286 : mvOkT 286 = true := by decide +kernel
theorem mp_287_0 : mvOkR 287 0 38 = true := by decide +kernel
theorem ml_287 : ∀ p, 38 ≤ p → mvC 287 p = mvNo := fun p h => (show mc_287 p = mvNo by unfold mc_287; rw [Nat.ble_eq_true_of_le h]; rfl)
theorem mk_287 : ∀ p, mvOk 287 p = true := fun p => if h0 : p < 38 then mvOkR_at mp_287_0 p (by omega) (by omega) else mvOk_no (ml_287 p (by omega))
theorem mt_287 : mvOkT 287 = true := by decide +kernel
theorem mp_288_0 : mvOkR 288 0 33 = true := by decide +kernel
theorem ml_288 : ∀ p, 33 ≤ p → mvC 288 p = mvNo := fun p h => (show mc_288 p = mvNo by unfold mc_288; rw [Nat.ble_eq_true_of_le h]; rfl)
theorem mk_288 : ∀ p, mvOk 288 p = true := fun p => if h0 : p < 33 then mvOkR_at mp_288_0 p (by omega) (by omega) else mvOk_no (ml_288 p (by omega))
theorem mt_288 : mvOkT 288 = true := by decide +kernel
theorem mp_289_0 : mvOkR 289 0 25 = true := by decide +kernel
theorem ml_289 : ∀ p, 25 ≤ p → mvC 289 p = mvNo := fun p h => (show mc_289 p = mvNo by unfold mc_289; rw [Nat.ble_eq_true_of_le h]; rfl)
theorem mk_289 : ∀ p, mvOk 289 p = true := fun p => if h0 : p < 25 then mvOkR_at mp_289_0 p (by omega) (by omega) else mvOk_no (ml_289 p (by omega))
theorem mt_289 : mvOkT 289 = true := by decide +kernel
theorem mp_290_0 : mvOkR 290 0 115 = true := by decide +kernel
theorem ml_290 : ∀ p, 115 ≤ p → mvC 290 p = mvNo := fun p h => (show mc_290 p = mvNo by unfold mc_290; rw [Nat.ble_eq_true_of_le h]; rfl)
theorem mk_290 : ∀ p, mvOk 290 p = true := fun p => if h0 : p < 115 then mvOkR_at mp_290_0 p (by omega) (by omega) else mvOk_no (ml_290 p (by omega))
theorem mt_290 : mvOkT 290 = true := by decide +kernel
theorem mp_291_0 : mvOkR 291 0 18 = true := by decide +kernel
theorem ml_291 : ∀ p, 18 ≤ p → mvC 291 p = mvNo := fun p h => (show mc_291 p = mvNo by unfold mc_291; rw [Nat.ble_eq_true_of_le h]; rfl)
theorem mk_291 : ∀ p, mvOk 291 p = true := fun p => if h0 : p < 18 then mvOkR_at mp_291_0 p (by omega) (by omega) else mvOk_no (ml_291 p (by omega))
theorem mt_291 : mvOkT 291 = true := by decide +kernel
theorem mp_292_0 : mvOkR 292 0 100 = true := by decide +kernel
theorem ml_292 : ∀ p, 100 ≤ p → mvC 292 p = mvNo := fun p h => (show mc_292 p = mvNo by unfold mc_292; rw [Nat.ble_eq_true_of_le h]; rfl)
theorem mk_292 : ∀ p, mvOk 292 p = true := fun p => if h0 : p < 100 then mvOkR_at mp_292_0 p (by omega) (by omega) else mvOk_no (ml_292 p (by omega))
theorem mt_292 : mvOkT 292 = true := by decide +kernel
theorem mp_293_0 : mvOkR 293 0 22 = true := by decide +kernel
theorem ml_293 : ∀ p, 22 ≤ p → mvC 293 p = mvNo := fun p h => (show mc_293 p = mvNo by unfold mc_293; rw [Nat.ble_eq_true_of_le h]; rfl)
theorem mk_293 : ∀ p, mvOk 293 p = true := fun p => if h0 : p < 22 then mvOkR_at mp_293_0 p (by omega) (by omega) else mvOk_no (ml_293 p (by omega))
theorem mt_293 : mvOkT 293 = true := by decide +kernel
theorem mp_294_0 : mvOkR 294 0 10 = true := by decide +kernel
theorem ml_294 : ∀ p, 10 ≤ p → mvC 294 p = mvNo := fun p h => (show mc_294 p = mvNo by unfold mc_294; rw [Nat.ble_eq_true_of_le h]; rfl)
theorem mk_294 : ∀ p, mvOk 294 p = true := fun p => if h0 : p < 10 then mvOkR_at mp_294_0 p (by omega) (by omega) else mvOk_no (ml_294 p (by omega))
theorem mt_294 : mvOkT 294 = true := by decide +kernel
theorem mp_295_0 : mvOkR 295 0 113 = true := by decide +kernel
theorem ml_295 : ∀ p, 113 ≤ p → mvC 295 p = mvNo := fun p h => (show mc_295 p = mvNo by unfold mc_295; rw [Nat.ble_eq_true_of_le h]; rfl)
theorem mk_295 : ∀ p, mvOk 295 p = true := fun p => if h0 : p < 113 then mvOkR_at mp_295_0 p (by omega) (by omega) else mvOk_no (ml_295 p (by omega))
theorem mt_295 : mvOkT 295 = true := by decide +kernel
theorem mp_296_0 : mvOkR 296 0 10 = true := by decide +kernel
theorem ml_296 : ∀ p, 10 ≤ p → mvC 296 p = mvNo := fun p h => (show mc_296 p = mvNo by unfold mc_296; rw [Nat.ble_eq_true_of_le h]; rfl)
theorem mk_296 : ∀ p, mvOk 296 p = true := fun p => if h0 : p < 10 then mvOkR_at mp_296_0 p (by omega) (by omega) else mvOk_no (ml_296 p (by omega))
theorem mt_296 : mvOkT 296 = true := by decide +kernel
theorem mp_297_0 : mvOkR 297 0 81 = true := by decide +kernel
theorem ml_297 : ∀ p, 81 ≤ p → mvC 297 p = mvNo := fun p h => (show mc_297 p = mvNo by unfold mc_297; rw [Nat.ble_eq_true_of_le h]; rfl)
theorem mk_297 : ∀ p, mvOk 297 p = true := fun p => if h0 : p < 81 then mvOkR_at mp_297_0 p (by omega) (by omega) else mvOk_no (ml_297 p (by omega))
theorem mt_297 : mvOkT 297 = true := by decide +kernel
theorem mp_298_0 : mvOkR 298 0 106 = true := by decide +kernel
theorem ml_298 : ∀ p, 106 ≤ p → mvC 298 p = mvNo := fun p h => (show mc_298 p = mvNo by unfold mc_298; rw [Nat.ble_eq_true_of_le h]; rfl)
theorem mk_298 : ∀ p, mvOk 298 p = true := fun p => if h0 : p < 106 then mvOkR_at mp_298_0 p (by omega) (by omega) else mvOk_no (ml_298 p (by omega))
theorem mt_298 : mvOkT 298 = true := by decide +kernel
theorem mp_299_0 : mvOkR 299 0 27 = true := by decide +kernel
theorem ml_299 : ∀ p, 27 ≤ p → mvC 299 p = mvNo := fun p h => (show mc_299 p = mvNo by unfold mc_299; rw [Nat.ble_eq_true_of_le h]; rfl)
theorem mk_299 : ∀ p, mvOk 299 p = true := fun p => if h0 : p < 27 then mvOkR_at mp_299_0 p (by omega) (by omega) else mvOk_no (ml_299 p (by omega))
theorem mt_299 : mvOkT 299 = true := by decide +kernel
theorem mp_300_0 : mvOkR 300 0 20 = true := by decide +kernel
theorem ml_300 : ∀ p, 20 ≤ p → mvC 300 p = mvNo := fun p h => (show mc_300 p = mvNo by unfold mc_300; rw [Nat.ble_eq_true_of_le h]; rfl)
theorem mk_300 : ∀ p, mvOk 300 p = true := fun p => if h0 : p < 20 then mvOkR_at mp_300_0 p (by omega) (by omega) else mvOk_no (ml_300 p (by omega))
theorem mt_300 : mvOkT 300 = true := by decide +kernel
theorem mp_301_0 : mvOkR 301 0 50 = true := by decide +kernel
theorem ml_301 : ∀ p, 50 ≤ p → mvC 301 p = mvNo := fun p h => (show mc_301 p = mvNo by unfold mc_301; rw [Nat.ble_eq_true_of_le h]; rfl)
theorem mk_301 : ∀ p, mvOk 301 p = true := fun p => if h0 : p < 50 then mvOkR_at mp_301_0 p (by omega) (by omega) else mvOk_no (ml_301 p (by omega))
theorem mt_301 : mvOkT 301 = true := by decide +kernel
theorem mp_302_0 : mvOkR 302 0 46 = true := by decide +kernel
theorem ml_302 : ∀ p, 46 ≤ p → mvC 302 p = mvNo := fun p h => (show mc_302 p = mvNo by unfold mc_302; rw [Nat.ble_eq_true_of_le h]; rfl)
theorem mk_302 : ∀ p, mvOk 302 p = true := fun p => if h0 : p < 46 then mvOkR_at mp_302_0 p (by omega) (by omega) else mvOk_no (ml_302 p (by omega))
theorem mt_302 : mvOkT 302 = true := by decide +kernel
theorem mp_303_0 : mvOkR 303 0 11 = true := by decide +kernel
theorem ml_303 : ∀ p, 11 ≤ p → mvC 303 p = mvNo := fun p h => (show mc_303 p = mvNo by unfold mc_303; rw [Nat.ble_eq_true_of_le h]; rfl)
theorem mk_303 : ∀ p, mvOk 303 p = true := fun p => if h0 : p < 11 then mvOkR_at mp_303_0 p (by omega) (by omega) else mvOk_no (ml_303 p (by omega))
theorem mt_303 : mvOkT 303 = true := by decide +kernel
theorem mp_304_0 : mvOkR 304 0 119 = true := by decide +kernel
theorem ml_304 : ∀ p, 119 ≤ p → mvC 304 p = mvNo := fun p h => (show mc_304 p = mvNo by unfold mc_304; rw [Nat.ble_eq_true_of_le h]; rfl)
theorem mk_304 : ∀ p, mvOk 304 p = true := fun p => if h0 : p < 119 then mvOkR_at mp_304_0 p (by omega) (by omega) else mvOk_no (ml_304 p (by omega))
theorem mt_304 : mvOkT 304 = true := by decide +kernel
theorem mp_305_0 : mvOkR 305 0 61 = true := by decide +kernel
theorem ml_305 : ∀ p, 61 ≤ p → mvC 305 p = mvNo := fun p h => (show mc_305 p = mvNo by unfold mc_305; rw [Nat.ble_eq_true_of_le h]; rfl)
theorem mk_305 : ∀ p, mvOk 305 p = true := fun p => if h0 : p < 61 then mvOkR_at mp_305_0 p (by omega) (by omega) else mvOk_no (ml_305 p (by omega))
theorem mt_305 : mvOkT 305 = true := by decide +kernel
theorem mp_306_0 : mvOkR 306 0 120 = true := by decide +kernel
theorem mp_306_1 : mvOkR 306 120 55 = true := by decide +kernel
theorem ml_306 : ∀ p, 175 ≤ p → mvC 306 p = mvNo := fun p h => (show mc_306 p = mvNo by unfold mc_306; rw [Nat.ble_eq_true_of_le h]; rfl)
theorem mk_306 : ∀ p, mvOk 306 p = true := fun p => if h0 : p < 120 then mvOkR_at mp_306_0 p (by omega) (by omega) else if h1 : p < 175 then mvOkR_at mp_306_1 p (by omega) (by omega) else mvOk_no (ml_306 p (by omega))
theorem mt_306 : mvOkT 306 = true := by decide +kernel
theorem mp_307_0 : mvOkR 307 0 120 = true := by decide +kernel
theorem mp_307_1 : mvOkR 307 120 120 = true := by decide +kernel
theorem mp_307_2 : mvOkR 307 240 5 = true := by decide +kernel
theorem ml_307 : ∀ p, 245 ≤ p → mvC 307 p = mvNo := fun p h => (show mc_307 p = mvNo by unfold mc_307; rw [Nat.ble_eq_true_of_le h]; rfl)
theorem mk_307 : ∀ p, mvOk 307 p = true := fun p => if h0 : p < 120 then mvOkR_at mp_307_0 p (by omega) (by omega) else if h1 : p < 240 then mvOkR_at mp_307_1 p (by omega) (by omega) else if h2 : p < 245 then mvOkR_at mp_307_2 p (by omega) (by omega) else mvOk_no (ml_307 p (by omega))
theorem mt_307 : mvOkT 307 = true := by decide +kernel
theorem mp_308_0 : mvOkR 308 0 120 = true := by decide +kernel
theorem mp_308_1 : mvOkR 308 120 50 = true := by decide +kernel
theorem ml_308 : ∀ p, 170 ≤ p → mvC 308 p = mvNo := fun p h => (show mc_308 p = mvNo by unfold mc_308; rw [Nat.ble_eq_true_of_le h]; rfl)
theorem mk_308 : ∀ p, mvOk 308 p = true := fun p => if h0 : p < 120 then mvOkR_at mp_308_0 p (by omega) (by omega) else if h1 : p < 170 then mvOkR_at mp_308_1 p (by omega) (by omega) else mvOk_no (ml_308 p (by omega))
theorem mt_308 : mvOkT 308 = true := by decide +kernel
theorem mp_309_0 : mvOkR 309 0 20 = true := by decide +kernel
theorem ml_309 : ∀ p, 20 ≤ p → mvC 309 p = mvNo := fun p h => (show mc_309 p = mvNo by unfold mc_309; rw [Nat.ble_eq_true_of_le h]; rfl)
theorem mk_309 : ∀ p, mvOk 309 p = true := fun p => if h0 : p < 20 then mvOkR_at mp_309_0 p (by omega) (by omega) else mvOk_no (ml_309 p (by omega))
theorem mt_309 : mvOkT 309 = true := by decide +kernel
theorem mp_310_0 : mvOkR 310 0 114 = true := by decide +kernel
theorem ml_310 : ∀ p, 114 ≤ p → mvC 310 p = mvNo := fun p h => (show mc_310 p = mvNo by unfold mc_310; rw [Nat.ble_eq_true_of_le h]; rfl)
theorem mk_310 : ∀ p, mvOk 310 p = true := fun p => if h0 : p < 114 then mvOkR_at mp_310_0 p (by omega) (by omega) else mvOk_no (ml_310 p (by omega))
theorem mt_310 : mvOkT 310 = true := by decide +kernel
theorem mp_311_0 : mvOkR 311 0 33 = true := by decide +kernel
theorem ml_311 : ∀ p, 33 ≤ p → mvC 311 p = mvNo := fun p h => (show mc_311 p = mvNo by unfold mc_311; rw [Nat.ble_eq_true_of_le h]; rfl)
theorem mk_311 : ∀ p, mvOk 311 p = true := fun p => if h0 : p < 33 then mvOkR_at mp_311_0 p (by omega) (by omega) else mvOk_no (ml_311 p (by omega))
theorem mt_311 : mvOkT 311 = true := by decide +kernel
theorem mp_312_0 : mvOkR 312 0 39 = true := by decide +kernel
theorem ml_312 : ∀ p, 39 ≤ p → mvC 312 p = mvNo := fun p h => (show mc_312 p = mvNo by unfold mc_312; rw [Nat.ble_eq_true_of_le h]; rfl)
theorem mk_312 : ∀ p, mvOk 312 p = true := fun p => if h0 : p < 39 then mvOkR_at mp_312_0 p (by omega) (by omega) else mvOk_no (ml_312 p (by omega))
theorem mt_312 : mvOkT 312 = true := by decide +kernel
theorem mp_313_0 : mvOkR 313 0 36 = true := by decide +kernel
theorem ml_313 : ∀ p, 36 ≤ p → mvC 313 p = mvNo := fun p h => (show mc_313 p = mvNo by unfold mc_313; rw [Nat.ble_eq_true_of_le h]; rfl)
theorem mk_313 : ∀ p, mvOk 313 p = true := fun p => if h0 : p < 36 then mvOkR_at mp_313_0 p (by omega) (by omega) else mvOk_no (ml_313 p (by omega))
theorem mt_313 : mvOkT 313 = true := by decide +kernel
theorem mp_314_0 : mvOkR 314 0 120 = true := by decide +kernel
theorem mp_314_1 : mvOkR 314 120 41 = true := by decide +kernel
theorem ml_314 : ∀ p, 161 ≤ p → mvC 314 p = mvNo := fun p h => (show mc_314 p = mvNo by unfold mc_314; rw [Nat.ble_eq_true_of_le h]; rfl)
theorem mk_314 : ∀ p, mvOk 314 p = true := fun p => if h0 : p < 120 then mvOkR_at mp_314_0 p (by omega) (by omega) else if h1 : p < 161 then mvOkR_at mp_314_1 p (by omega) (by omega) else mvOk_no (ml_314 p (by omega))
theorem mt_314 : mvOkT 314 = true := by decide +kernel
theorem mp_315_0 : mvOkR 315 0 45 = true := by decide +kernel
theorem ml_315 : ∀ p, 45 ≤ p → mvC 315 p = mvNo := fun p h => (show mc_315 p = mvNo by unfold mc_315; rw [Nat.ble_eq_true_of_le h]; rfl)
theorem mk_315 : ∀ p, mvOk 315 p = true := fun p => if h0 : p < 45 then mvOkR_at mp_315_0 p (by omega) (by omega) else mvOk_no (ml_315 p (by omega))
theorem mt_315 : mvOkT 315 = true := by decide +kernel
theorem mp_316_0 : mvOkR 316 0 43 = true := by decide +kernel
theorem ml_316 : ∀ p, 43 ≤ p → mvC 316 p = mvNo := fun p h => (show mc_316 p = mvNo by unfold mc_316; rw [Nat.ble_eq_true_of_le h]; rfl)
theorem mk_316 : ∀ p, mvOk 316 p = true := fun p => if h0 : p < 43 then mvOkR_at mp_316_0 p (by omega) (by omega) else mvOk_no (ml_316 p (by omega))
theorem mt_316 : mvOkT 316 = true := by decide +kernel
theorem mp_317_0 : mvOkR 317 0 19 = true := by decide +kernel
theorem ml_317 : ∀ p, 19 ≤ p → mvC 317 p = mvNo := fun p h => (show mc_317 p = mvNo by unfold mc_317; rw [Nat.ble_eq_true_of_le h]; rfl)
theorem mk_317 : ∀ p, mvOk 317 p = true := fun p => if h0 : p < 19 then mvOkR_at mp_317_0 p (by omega) (by omega) else mvOk_no (ml_317 p (by omega))
theorem mt_317 : mvOkT 317 = true := by decide +kernel
theorem mp_318_0 : mvOkR 318 0 12 = true := by decide +kernel
theorem ml_318 : ∀ p, 12 ≤ p → mvC 318 p = mvNo := fun p h => (show mc_318 p = mvNo by unfold mc_318; rw [Nat.ble_eq_true_of_le h]; rfl)
theorem mk_318 : ∀ p, mvOk 318 p = true := fun p => if h0 : p < 12 then mvOkR_at mp_318_0 p (by omega) (by omega) else mvOk_no (ml_318 p (by omega))
theorem mt_318 : mvOkT 318 = true := by decide +kernel
theorem mp_319_0 : mvOkR 319 0 120 = true := by decide +kernel
theorem mp_319_1 : mvOkR 319 120 3 = true := by decide +kernel
theorem ml_319 : ∀ p, 123 ≤ p → mvC 319 p = mvNo := fun p h => (show mc_319 p = mvNo by unfold mc_319; rw [Nat.ble_eq_true_of_le h]; rfl)
theorem mk_319 : ∀ p, mvOk 319 p = true := fun p => if h0 : p < 120 then mvOkR_at mp_319_0 p (by omega) (by omega) else if h1 : p < 123 then mvOkR_at mp_319_1 p (by omega) (by omega) else mvOk_no (ml_319 p (by omega))
theorem mt_319 : mvOkT 319 = true := by decide +kernel
theorem mp_320_0 : mvOkR 320 0 19 = true := by decide +kernel
theorem ml_320 : ∀ p, 19 ≤ p → mvC 320 p = mvNo := fun p h => (show mc_320 p = mvNo by unfold mc_320; rw [Nat.ble_eq_true_of_le h]; rfl)
theorem mk_320 : ∀ p, mvOk 320 p = true := fun p => if h0 : p < 19 then mvOkR_at mp_320_0 p (by omega) (by omega) else mvOk_no (ml_320 p (by omega))
theorem mt_320 : mvOkT 320 = true := by decide +kernel
theorem mp_321_0 : mvOkR 321 0 19 = true := by decide +kernel
theorem ml_321 : ∀ p, 19 ≤ p → mvC 321 p = mvNo := fun p h => (show mc_321 p = mvNo by unfold mc_321; rw [Nat.ble_eq_true_of_le h]; rfl)
theorem mk_321 : ∀ p, mvOk 321 p = true := fun p => if h0 : p < 19 then mvOkR_at mp_321_0 p (by omega) (by omega) else mvOk_no (ml_321 p (by omega))
theorem mt_321 : mvOkT 321 = true := by decide +kernel
theorem mp_322_0 : mvOkR 322 0 35 = true := by decide +kernel
theorem ml_322 : ∀ p, 35 ≤ p → mvC 322 p = mvNo := fun p h => (show mc_322 p = mvNo by unfold mc_322; rw [Nat.ble_eq_true_of_le h]; rfl)
theorem mk_322 : ∀ p, mvOk 322 p = true := fun p => if h0 : p < 35 then mvOkR_at mp_322_0 p (by omega) (by omega) else mvOk_no (ml_322 p (by omega))
theorem mt_322 : mvOkT 322 = true := by decide +kernel
