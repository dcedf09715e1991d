/-! THE CALL text of the class: a new Text where none is -/
section TN
variable {L t : Nat} {lt rt rp : Option Nat} {sw : Bool} {h : Nat → Nat → Int32} {gl : Nat → Nat → Int64}
/-- the state with a new text at its place -/
def nTx (t : Nat) (σ : mvSt) : mvSt := iTxt (98 + 7 * t) (98 + 7 * t + 1) (mkS σ 10 8)
theorem lySh_at {j : Nat} (hj : j < 7) : lySh L (t + 1) (98 + 7 * t + j) = lyT j := by
  show (bif Nat.ble 98 (98 + 7 * t + j) then (bif Nat.blt (98 + 7 * t + j) (98 + 7 * (t + 1)) then lyT ((98 + 7 * t + j - 98) % 7) else (99, 0)) else lyB L (98 + 7 * t + j)) = lyT j
  rw [Nat.ble_eq_true_of_le (show 98 ≤ 98 + 7 * t + j by omega), bltT (show 98 + 7 * t + j < 98 + 7 * (t + 1) by omega), show (98 + 7 * t + j - 98) % 7 = j by omega]
  rfl
theorem lySh_lo {i : Nat} (hi : i < 98 + 7 * t) : lySh L t i = lySh L (t + 1) i := by
  show (bif Nat.ble 98 i then (bif Nat.blt i (98 + 7 * t) then lyT ((i - 98) % 7) else (99, 0)) else lyB L i) = (bif Nat.ble 98 i then (bif Nat.blt i (98 + 7 * (t + 1)) then lyT ((i - 98) % 7) else (99, 0)) else lyB L i)
  rw [bltT hi, bltT (show i < 98 + 7 * (t + 1) by omega)]
theorem lySh_hi {i : Nat} (hi : 98 + 7 * t ≤ i) : lySh L t i = (99, 0) := by
  show (bif Nat.ble 98 i then (bif Nat.blt i (98 + 7 * t) then lyT ((i - 98) % 7) else (99, 0)) else lyB L i) = (99, 0)
  rw [Nat.ble_eq_true_of_le (show 98 ≤ i by omega), bltF hi]
  rfl
theorem lyR_hi {i : Nat} (hi : 98 + 7 * t ≤ i) : lyR lt rt rp sw t i = fun _ => none := by
  show (bif Nat.ble 98 i then (bif Nat.blt i (98 + 7 * t) && Nat.beq ((i - 98) % 7) 0 then lyRT i else (fun _ => none)) else lyRB lt rt rp sw t i) = fun _ => none
  rw [Nat.ble_eq_true_of_le (show 98 ≤ i by omega), bltF hi]
  rfl
theorem lyR_lo {i : Nat} (hi : i < 98 + 7 * t) (h98 : 98 ≤ i) : lyR lt rt rp sw t i = lyR lt rt rp sw (t + 1) i := by
  show (bif Nat.ble 98 i then (bif Nat.blt i (98 + 7 * t) && Nat.beq ((i - 98) % 7) 0 then lyRT i else (fun _ => none)) else lyRB lt rt rp sw t i) = (bif Nat.ble 98 i then (bif Nat.blt i (98 + 7 * (t + 1)) && Nat.beq ((i - 98) % 7) 0 then lyRT i else (fun _ => none)) else lyRB lt rt rp sw (t + 1) i)
  rw [Nat.ble_eq_true_of_le h98, bltT hi, bltT (show i < 98 + 7 * (t + 1) by omega)]
  rfl
theorem lyR_at {j : Nat} (hj : j < 7) : lyR lt rt rp sw (t + 1) (98 + 7 * t + j) = (bif Nat.beq j 0 then lyRT (98 + 7 * t + j) else (fun _ => none)) := by
  show (bif Nat.ble 98 (98 + 7 * t + j) then (bif Nat.blt (98 + 7 * t + j) (98 + 7 * (t + 1)) && Nat.beq ((98 + 7 * t + j - 98) % 7) 0 then lyRT (98 + 7 * t + j) else (fun _ => none)) else lyRB lt rt rp sw (t + 1) (98 + 7 * t + j)) = _
  rw [Nat.ble_eq_true_of_le (show 98 ≤ 98 + 7 * t + j by omega), bltT (show 98 + 7 * t + j < 98 + 7 * (t + 1) by omega), show (98 + 7 * t + j - 98) % 7 = j by omega]
  rfl
theorem nTx_s2 : (nTx t (sX L t lt rt rp sw h gl)).1.2.2 = lySh L (t + 1) := by
  funext i
  show va_up (va_up (va_up (va_up (va_up (va_up (va_up (lySh L t) (98 + 7 * t) (10, 8)) (98 + 7 * t + 1) (20, 24)) (98 + 7 * t + 2) (20, 24)) (98 + 7 * t + 3) (20, 24)) (98 + 7 * t + 4) (20, 300)) (98 + 7 * t + 5) (20, 3)) (98 + 7 * t + 6) (20, 3) i = lySh L (t + 1) i
  by_cases c : i < 98 + 7 * t ∨ 98 + 7 * (t + 1) ≤ i
  · rw [va_up_ne _ _ (by omega), va_up_ne _ _ (by omega), va_up_ne _ _ (by omega), va_up_ne _ _ (by omega), va_up_ne _ _ (by omega), va_up_ne _ _ (by omega), va_up_ne _ _ (by omega)]
    rcases c with c | c
    · exact lySh_lo c
    · rw [lySh_hi (by omega), lySh_hi (by omega)]
  · have q : i = 98 + 7 * t + 0 ∨ i = 98 + 7 * t + 1 ∨ i = 98 + 7 * t + 2 ∨ i = 98 + 7 * t + 3 ∨ i = 98 + 7 * t + 4 ∨ i = 98 + 7 * t + 5 ∨ i = 98 + 7 * t + 6 := by omega
    rcases q with rfl | rfl | rfl | rfl | rfl | rfl | rfl
    · rw [lySh_at (by omega), va_up_ne _ _ (by omega), va_up_ne _ _ (by omega), va_up_ne _ _ (by omega), va_up_ne _ _ (by omega), va_up_ne _ _ (by omega), va_up_ne _ _ (by omega)]
      exact va_up_self _ _ _
    · rw [lySh_at (by omega), va_up_ne _ _ (by omega), va_up_ne _ _ (by omega), va_up_ne _ _ (by omega), va_up_ne _ _ (by omega), va_up_ne _ _ (by omega), va_up_self]
      rfl
    · rw [lySh_at (by omega), va_up_ne _ _ (by omega), va_up_ne _ _ (by omega), va_up_ne _ _ (by omega), va_up_ne _ _ (by omega), va_up_self]
      rfl
    · rw [lySh_at (by omega), va_up_ne _ _ (by omega), va_up_ne _ _ (by omega), va_up_ne _ _ (by omega), va_up_self]
      rfl
    · rw [lySh_at (by omega), va_up_ne _ _ (by omega), va_up_ne _ _ (by omega), va_up_self]
      rfl
    · rw [lySh_at (by omega), va_up_ne _ _ (by omega), va_up_self]
      rfl
    · rw [lySh_at (by omega), va_up_self]
      rfl
theorem nTx_sh : (nTx t (sX L t lt rt rp sw h gl)).1 = lyMe L (t + 1) := by
  show (98 + 7 * t + 1 + 1 + 1 + 1 + 1 + 1 + 1, 14409 + 386 * t + 8 + 24 + 24 + 24 + 300 + 3 + 3, (nTx t (sX L t lt rt rp sw h gl)).1.2.2) = (98 + 7 * (t + 1), 14409 + 386 * (t + 1), lySh L (t + 1))
  rw [nTx_s2, show 98 + 7 * t + 1 + 1 + 1 + 1 + 1 + 1 + 1 = 98 + 7 * (t + 1) by omega, show 14409 + 386 * t + 8 + 24 + 24 + 24 + 300 + 3 + 3 = 14409 + 386 * (t + 1) by omega]
theorem nTx_r : (nTx t (sX L t lt rt rp sw h gl)).2.2.2 = mvPut (va_up (mvPut (va_up (mvPut (va_up (mvPut (va_up (mvPut (va_up (mvPut (va_up (va_up (lyR lt rt rp sw t) (98 + 7 * t) (fun _ => none)) (98 + 7 * t + 1) (fun _ => none)) (98 + 7 * t) 0 (some (98 + 7 * t + 1))) (98 + 7 * t + 2) (fun _ => none)) (98 + 7 * t) 1 (some (98 + 7 * t + 2))) (98 + 7 * t + 3) (fun _ => none)) (98 + 7 * t) 2 (some (98 + 7 * t + 3))) (98 + 7 * t + 4) (fun _ => none)) (98 + 7 * t) 4 (some (98 + 7 * t + 4))) (98 + 7 * t + 5) (fun _ => none)) (98 + 7 * t) 6 (some (98 + 7 * t + 5))) (98 + 7 * t + 6) (fun _ => none)) (98 + 7 * t) 7 (some (98 + 7 * t + 6)) := rfl
theorem nTx_ro : (nTx t (sX L t lt rt rp sw h gl)).2.2.2 (98 + 7 * t) = lyRT (98 + 7 * t) := by
  rw [nTx_r]
  unfold mvPut
  rw [va_up_self, va_up_ne _ _ (by omega), va_up_self, va_up_ne _ _ (by omega), va_up_self, va_up_ne _ _ (by omega), va_up_self, va_up_ne _ _ (by omega), va_up_self, va_up_ne _ _ (by omega), va_up_self, va_up_ne _ _ (by omega), va_up_self]
  funext k
  match k with
  | 0 => rfl
  | 1 => rfl
  | 2 => rfl
  | 3 => rfl
  | 4 => rfl
  | 5 => rfl
  | 6 => rfl
  | 7 => rfl
  | n + 8 => rfl
theorem nTx_rj {j : Nat} (h1 : 1 ≤ j) (h2 : j < 7) : (nTx t (sX L t lt rt rp sw h gl)).2.2.2 (98 + 7 * t + j) = fun _ => none := by
  rw [nTx_r]
  unfold mvPut
  have q : j = 1 ∨ j = 2 ∨ j = 3 ∨ j = 4 ∨ j = 5 ∨ j = 6 := by omega
  rcases q with rfl | rfl | rfl | rfl | rfl | rfl
  · iterate 10 rw [va_up_ne _ _ (by omega)]
    rw [va_up_ne _ _ (by omega), va_up_self]
  · iterate 8 rw [va_up_ne _ _ (by omega)]
    rw [va_up_ne _ _ (by omega), va_up_self]
  · iterate 6 rw [va_up_ne _ _ (by omega)]
    rw [va_up_ne _ _ (by omega), va_up_self]
  · iterate 4 rw [va_up_ne _ _ (by omega)]
    rw [va_up_ne _ _ (by omega), va_up_self]
  · iterate 2 rw [va_up_ne _ _ (by omega)]
    rw [va_up_ne _ _ (by omega), va_up_self]
  · iterate 0 rw [va_up_ne _ _ (by omega)]
    rw [va_up_ne _ _ (by omega), va_up_self]
theorem nTx_rx {i : Nat} (hi : i < 98 + 7 * t ∨ 98 + 7 * (t + 1) ≤ i) : (nTx t (sX L t lt rt rp sw h gl)).2.2.2 i = lyR lt rt rp sw t i := by
  rw [nTx_r]
  unfold mvPut
  iterate 13 rw [va_up_ne _ _ (by omega)]
theorem nTx_rf : mvPut (nTx t (sX L t lt rt rp sw h gl)).2.2.2 67 t (some (98 + 7 * t)) = lyR lt rt rp sw (t + 1) := by
  funext i
  by_cases c67 : i = 67
  · subst c67
    unfold mvPut
    rw [va_up_self, nTx_rx (by omega)]
    funext k
    show va_up (fun k => bif Nat.blt k t then some (98 + 7 * k) else none) t (some (98 + 7 * t)) k = (bif Nat.blt k (t + 1) then some (98 + 7 * k) else none)
    by_cases ck : k = t
    · subst ck
      rw [va_up_self, bltT (Nat.lt_succ_self _)]
      rfl
    · rw [va_up_ne _ _ ck]
      by_cases c : k < t
      · rw [bltT c, bltT (by omega)]
      · rw [bltF (by omega), bltF (by omega)]
  · unfold mvPut
    rw [va_up_ne _ _ c67]
    by_cases c : i < 98
    · rw [nTx_rx (by omega)]
      match i, c67, c with
      | 0, _, _ => rfl
      | 1, _, _ => rfl
      | 2, _, _ => rfl
      | 3, _, _ => rfl
      | 4, _, _ => rfl
      | 5, _, _ => rfl
      | 6, _, _ => rfl
      | 7, _, _ => rfl
      | 8, _, _ => rfl
      | 9, _, _ => rfl
      | 10, _, _ => rfl
      | 11, _, _ => rfl
      | 12, _, _ => rfl
      | 13, _, _ => rfl
      | 14, _, _ => rfl
      | 15, _, _ => rfl
      | 16, _, _ => rfl
      | 17, _, _ => rfl
      | 18, _, _ => rfl
      | 19, _, _ => rfl
      | 20, _, _ => rfl
      | 21, _, _ => rfl
      | 22, _, _ => rfl
      | 23, _, _ => rfl
      | 24, _, _ => rfl
      | 25, _, _ => rfl
      | 26, _, _ => rfl
      | 27, _, _ => rfl
      | 28, _, _ => rfl
      | 29, _, _ => rfl
      | 30, _, _ => rfl
      | 31, _, _ => rfl
      | 32, _, _ => rfl
      | 33, _, _ => rfl
      | 34, _, _ => rfl
      | 35, _, _ => rfl
      | 36, _, _ => rfl
      | 37, _, _ => rfl
      | 38, _, _ => rfl
      | 39, _, _ => rfl
      | 40, _, _ => rfl
      | 41, _, _ => rfl
      | 42, _, _ => rfl
      | 43, _, _ => rfl
      | 44, _, _ => rfl
      | 45, _, _ => rfl
      | 46, _, _ => rfl
      | 47, _, _ => rfl
      | 48, _, _ => rfl
      | 49, _, _ => rfl
      | 50, _, _ => rfl
      | 51, _, _ => rfl
      | 52, _, _ => rfl
      | 53, _, _ => rfl
      | 54, _, _ => rfl
      | 55, _, _ => rfl
      | 56, _, _ => rfl
      | 57, _, _ => rfl
      | 58, _, _ => rfl
      | 59, _, _ => rfl
      | 60, _, _ => rfl
      | 61, _, _ => rfl
      | 62, _, _ => rfl
      | 63, _, _ => rfl
      | 64, _, _ => rfl
      | 65, _, _ => rfl
      | 66, _, _ => rfl
      | 68, _, _ => rfl
      | 69, _, _ => rfl
      | 70, _, _ => rfl
      | 71, _, _ => rfl
      | 72, _, _ => rfl
      | 73, _, _ => rfl
      | 74, _, _ => rfl
      | 75, _, _ => rfl
      | 76, _, _ => rfl
      | 77, _, _ => rfl
      | 78, _, _ => rfl
      | 79, _, _ => rfl
      | 80, _, _ => rfl
      | 81, _, _ => rfl
      | 82, _, _ => rfl
      | 83, _, _ => rfl
      | 84, _, _ => rfl
      | 85, _, _ => rfl
      | 86, _, _ => rfl
      | 87, _, _ => rfl
      | 88, _, _ => rfl
      | 89, _, _ => rfl
      | 90, _, _ => rfl
      | 91, _, _ => rfl
      | 92, _, _ => rfl
      | 93, _, _ => rfl
      | 94, _, _ => rfl
      | 95, _, _ => rfl
      | 96, _, _ => rfl
      | 97, _, _ => rfl
      | n + 98, _, c => exact absurd c (by omega)
    · by_cases c2 : i < 98 + 7 * t
      · rw [nTx_rx (by omega)]
        exact lyR_lo c2 (by omega)
      · by_cases c3 : 98 + 7 * (t + 1) ≤ i
        · rw [nTx_rx (by omega), lyR_hi (by omega), lyR_hi c3]
        · obtain ⟨j, rfl⟩ := Nat.exists_eq_add_of_le (show 98 + 7 * t ≤ i by omega)
          rw [lyR_at (by omega)]
          match j with
          | 0 => exact nTx_ro
          | j + 1 => exact nTx_rj (by omega) (by omega)
theorem nTx_h {p : Nat} (hp : p < 98 + 7 * t) : (nTx t (sX L t lt rt rp sw h gl)).2.1 p = h p := by
  show (va_up (va_up (mvPut (va_up (mvPut (va_up (va_up (va_up (va_up h (98 + 7 * t) (fun _ => 0)) (98 + 7 * t + 1) (fun _ => 0)) (98 + 7 * t + 2) (fun _ => 0)) (98 + 7 * t + 3) (fun _ => 0)) (98 + 7 * t) 3 (nI 0)) (98 + 7 * t + 4) (fun _ => 0)) (98 + 7 * t) 5 (nI 0)) (98 + 7 * t + 5) (fun _ => 0)) (98 + 7 * t + 6) (fun _ => 0)) p = h p
  unfold mvPut
  iterate 9 rw [va_up_ne _ _ (by omega)]
theorem nTx_all : pR (nTx t (sX L t lt rt rp sw h gl)) 67 t (some (98 + 7 * t)) = sX L (t + 1) lt rt rp sw (nTx t (sX L t lt rt rp sw h gl)).2.1 (nTx t (sX L t lt rt rp sw h gl)).2.2.1 := by
  show ((nTx t (sX L t lt rt rp sw h gl)).1, (nTx t (sX L t lt rt rp sw h gl)).2.1, (nTx t (sX L t lt rt rp sw h gl)).2.2.1, mvPut (nTx t (sX L t lt rt rp sw h gl)).2.2.2 67 t (some (98 + 7 * t))) = _
  rw [nTx_sh, nTx_rf]
theorem c_aast {d k pc n : Nat} {L st : List Value} {σ : mvSt} {r : Option Value × mvSt} {l : Nat} {im : Int} {a b w : Nat} {i : Int32} {o v j z : Nat} (hC : mvC k pc = (.aastore, l, im, a, b, w)) (hn : pc + 1 = n) (ho : σ.1.2.2 o = (23, z)) (hv : (σ.1.2.2 v).1 = 10) (hi : i = nI j) (hj : j < z) (hz : z ≤ 65536) (A : avA d k n L st (pR σ o j (some v)) r) : avA d k pc L (.ref v :: .int i :: .ref o :: st) σ r := by
  obtain ⟨me, h, gl, gr⟩ := σ
  exact a_aast hC hn ho hv hi hj hz A
theorem gr_sX : Gr (sX L t lt rt rp sw h gl) (98 + 7 * t) 7 11 := ⟨rfl, rfl, by omega, fun i hi => ⟨lySh_hi hi, lyR_hi hi⟩, by omega⟩
theorem e_mkText {r : Option Value × mvSt} (ht : t < 4) (h11 : h 11 12 = nI t) (A : avA 83 36 41 [.ref 7, .int (nI t)] [] (sX L (t + 1) lt rt rp sw (nTx t (sX L t lt rt rp sw h gl)).2.1 (nTx t (sX L t lt rt rp sw h gl)).2.2.1) r) : avE 83 36 [.ref 7] (sX L t lt rt rp sw h gl) r := by
  have er : lyR lt rt rp sw t 67 t = none := by
    show (bif Nat.blt t t then some (98 + 7 * t) else none) = none
    rw [bltF (Nat.le_refl _)]
    rfl
  have G := gr_nw (t := 10) (z := 8) (gr_sX (L := L) (t := t) (lt := lt) (rt := rt) (rp := rp) (sw := sw) (h := h) (gl := gl))
  have S := nTx_sh (L := L) (t := t) (lt := lt) (rt := rt) (rp := rp) (sw := sw) (h := h) (gl := gl)
  show avA _ 36 0 [.ref 7, mvU] [] _ _
  refine a_aload_0 rfl rfl ?_
  refine a_getr rfl rfl rfl (fun _ _ _ => rfl) rfl ?_
  refine a_geti rfl rfl rfl (fun _ _ _ => rfl) ?_
  refine a_as (y := nI (t)) h11 ?_
  refine a_istore_1 rfl rfl rfl ?_
  refine a_iload_1 rfl rfl ?_
  refine a_ifN_lt rfl rfl rfl (by omega) (fun c_9 => False.elim (by omega)) (fun _ => ?_)
  refine a_iload_1 rfl rfl ?_
  refine a_iconst (v := (nI 4)) rfl rfl rfl ?_
  refine a_cmpN_lt rfl rfl rfl (by omega) (by omega) (fun _ => ?_) (fun c_14 => False.elim (by omega))
  refine a_aload_0 rfl rfl ?_
  refine a_getr rfl rfl rfl (fun _ _ _ => rfl) rfl ?_
  refine a_iload_1 rfl rfl ?_
  refine a_aald rfl rfl rfl rfl (by omega) (by decide) ?_
  refine a_isN er ?_
  refine a_ifnonnullN rfl rfl ?_
  refine a_aload_0 rfl rfl ?_
  refine a_getr (x := 67) rfl rfl rfl (fun _ _ _ => rfl) rfl ?_
  refine a_iload_1 rfl rfl ?_
  refine c_new (z := 8) rfl rfl rfl rfl ?_
  refine a_dup rfl rfl rfl ?_
  refine a_spec0 rfl rfl (e_iTxt G) (by decide) ⟨rfl, rfl, rfl, rfl⟩ rfl rfl rfl (Nat.le_of_ble_eq_true rfl) G.2.1 rfl ?_
  refine c_aast (z := 4) rfl rfl ((congrArg (fun q => q.2.2 67) S).trans rfl) ((congrArg (fun q => (q.2.2 (98 + 7 * t)).1) S).trans (congrArg Prod.fst (tx_t (Nat.lt_succ_self t)))) rfl ht (by decide) ?_
  have e := nTx_all (L := L) (t := t) (lt := lt) (rt := rt) (rp := rp) (sw := sw) (h := h) (gl := gl)
  unfold nTx at e A
  show avA _ _ 41 [.ref 7, .int (nI t)] [] (pR (iTxt (98 + 7 * t) (98 + 7 * t + 1) (mkS (sX L t lt rt rp sw h gl) 10 8)) 67 t (some (98 + 7 * t))) r
  rw [e]
  exact A
/-- the class's whole call, where a text may still be kept -/
theorem e_ctext {b : Nat → Nat} {k x : Nat} (hx : x ≤ t) (hx4 : x < 4) (ht : t ≤ 4) (h11 : h 11 12 = nI x) (K : KI h) (T : TP b k h) (hl : lw3 h) : ∃ t' n r v h1 h' gl', t ≤ t' ∧ t' ≤ 4 ∧ x < t' ∧ NT b k n ∧ txO (cdT b k) (nmT b k) (10 * n + 20) (n + 1) X0 0 = some r ∧ avE 83 36 [.ref 7] (sX L t lt rt rp sw h gl) (some (.int v), sD L t' lt x sw h' gl') ∧ (∀ p, p < 98 + 7 * t → h1 p = h p) ∧ CT3 b k x h1 r v h' := by
  by_cases c : x < t
  · obtain ⟨n, r, v, h', N, hr, C, F⟩ := l_ctext (L := L) (lt := lt) (rt := rt) (rp := rp) (sw := sw) (gl := gl) c h11 hx4 K T hl
    have er : lyR lt rt rp sw t 67 x = some (98 + 7 * x) := by
      show (bif Nat.blt x t then some (98 + 7 * x) else none) = some (98 + 7 * x)
      rw [bltT c]
      rfl
    have b6 : Nat.beq (98 + 7 * x) 6 = false := by
      cases q : Nat.beq (98 + 7 * x) 6 with
      | false => rfl
      | true => exact absurd (Nat.eq_of_beq_eq_true q) (by omega)
    refine ⟨t, n, r, v, h, h', gl, Nat.le_refl _, ht, c, N, hr, ?_, fun _ _ => rfl, F⟩
    show avA _ 36 0 [.ref 7, mvU] [] _ _
    refine a_aload_0 rfl rfl ?_
    refine a_getr rfl rfl rfl (fun _ _ _ => rfl) rfl ?_
    refine a_geti rfl rfl rfl (fun _ _ _ => rfl) ?_
    refine a_as (y := nI (x)) h11 ?_
    refine a_istore_1 rfl rfl rfl ?_
    refine a_iload_1 rfl rfl ?_
    refine a_ifN_lt rfl rfl rfl (by omega) (fun c_9 => False.elim (by omega)) (fun _ => ?_)
    refine a_iload_1 rfl rfl ?_
    refine a_iconst (v := (nI 4)) rfl rfl rfl ?_
    refine a_cmpN_lt rfl rfl rfl (by omega) (by omega) (fun _ => ?_) (fun c_14 => False.elim (by omega))
    refine a_aload_0 rfl rfl ?_
    refine a_getr rfl rfl rfl (fun _ _ _ => rfl) rfl ?_
    refine a_iload_1 rfl rfl ?_
    refine a_aald rfl rfl rfl rfl (by omega) (by decide) ?_
    refine a_is er ?_
    refine a_ifnonnull rfl rfl b6 ?_
    exact C
  · obtain rfl : x = t := by omega
    have f : ∀ p, p < 98 + 7 * x → (nTx x (sX L x lt rt rp sw h gl)).2.1 p = h p := fun p hp => nTx_h hp
    have K1 : KI (nTx x (sX L x lt rt rp sw h gl)).2.1 := by
      unfold KI at K ⊢
      rw [f 1 (by omega), f 2 (by omega), f 3 (by omega), f 4 (by omega), f 5 (by omega), f 71 (by omega)]
      exact K
    have T1 : TP b k (nTx x (sX L x lt rt rp sw h gl)).2.1 := by
      unfold TP at T ⊢
      rw [f 68 (by omega), f 69 (by omega)]
      exact T
    have l1 : lw3 (nTx x (sX L x lt rt rp sw h gl)).2.1 := by
      obtain ⟨l, l1, l2⟩ := hl
      exact ⟨l, l1, (congrFun (f 72 (by omega)) 2).trans l2⟩
    obtain ⟨n, r, v, h', N, hr, C, F⟩ := l_ctext (L := L) (lt := lt) (rt := rt) (rp := rp) (sw := sw) (gl := (nTx x (sX L x lt rt rp sw h gl)).2.2.1) (Nat.lt_succ_self x) ((congrFun (f 11 (by omega)) 12).trans h11) hx4 K1 T1 l1
    exact ⟨x + 1, n, r, v, _, h', _, by omega, by omega, by omega, N, hr, e_mkText hx4 h11 C, f, F⟩
theorem e_ctext4 (h11 : h 11 12 = nI 4) : avE 0 36 [.ref 7] (sX L t lt rt rp sw h gl) (some (.int (-1)), sX L t lt rt rp sw h gl) := by
  show avA _ 36 0 [.ref 7, mvU] [] _ _
  refine a_aload_0 rfl rfl ?_
  refine a_getr rfl rfl rfl (fun _ _ _ => rfl) rfl ?_
  refine a_geti rfl rfl rfl (fun _ _ _ => rfl) ?_
  refine a_as (y := nI (4)) h11 ?_
  refine a_istore_1 rfl rfl rfl ?_
  refine a_iload_1 rfl rfl ?_
  refine a_ifN_lt rfl rfl rfl (by omega) (fun c_9 => False.elim (by omega)) (fun _ => ?_)
  refine a_iload_1 rfl rfl ?_
  refine a_iconst (v := (nI 4)) rfl rfl rfl ?_
  refine a_cmpN_lt rfl rfl rfl (by omega) (by omega) (fun c_14 => False.elim (by omega)) (fun _ => ?_)
  refine a_iconst (v := (-1)) rfl rfl rfl ?_
  exact a_iret rfl rfl
end TN
