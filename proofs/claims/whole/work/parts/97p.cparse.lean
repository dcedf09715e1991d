/-! READING A TEXT: the class, whole -/
theorem lyR_rt (lt rt rp v : Option Nat) (sw : Bool) (t : Nat) : mvPut (lyR lt rt rp sw t) 72 1 v = lyR lt v rp sw t := by
  funext o
  by_cases e : o = 72
  · subst e
    funext k
    match k with
    | 0 => rfl
    | 1 => rfl
    | n + 2 => rfl
  · unfold mvPut
    rw [va_up_ne _ _ e]
    match o, e with
    | 0, _ => rfl
    | 1, _ => rfl
    | 2, _ => rfl
    | 3, _ => rfl
    | 4, _ => rfl
    | 5, _ => rfl
    | 6, _ => rfl
    | 7, _ => rfl
    | 8, _ => rfl
    | 9, _ => rfl
    | 10, _ => rfl
    | 11, _ => rfl
    | 12, _ => rfl
    | 13, _ => rfl
    | 14, _ => rfl
    | 15, _ => rfl
    | 16, _ => rfl
    | 17, _ => rfl
    | 18, _ => rfl
    | 19, _ => rfl
    | 20, _ => rfl
    | 21, _ => rfl
    | 22, _ => rfl
    | 23, _ => rfl
    | 24, _ => rfl
    | 25, _ => rfl
    | 26, _ => rfl
    | 27, _ => rfl
    | 28, _ => rfl
    | 29, _ => rfl
    | 30, _ => rfl
    | 31, _ => rfl
    | 32, _ => rfl
    | 33, _ => rfl
    | 34, _ => rfl
    | 35, _ => rfl
    | 36, _ => rfl
    | 37, _ => rfl
    | 38, _ => rfl
    | 39, _ => rfl
    | 40, _ => rfl
    | 41, _ => rfl
    | 42, _ => rfl
    | 43, _ => rfl
    | 44, _ => rfl
    | 45, _ => rfl
    | 46, _ => rfl
    | 47, _ => rfl
    | 48, _ => rfl
    | 49, _ => rfl
    | 50, _ => rfl
    | 51, _ => rfl
    | 52, _ => rfl
    | 53, _ => rfl
    | 54, _ => rfl
    | 55, _ => rfl
    | 56, _ => rfl
    | 57, _ => rfl
    | 58, _ => rfl
    | 59, _ => rfl
    | 60, _ => rfl
    | 61, _ => rfl
    | 62, _ => rfl
    | 63, _ => rfl
    | 64, _ => rfl
    | 65, _ => rfl
    | 66, _ => rfl
    | 67, _ => rfl
    | 68, _ => rfl
    | 69, _ => rfl
    | 70, _ => rfl
    | 71, _ => rfl
    | 73, _ => rfl
    | 74, _ => rfl
    | 75, _ => rfl
    | 76, _ => rfl
    | 77, _ => rfl
    | 78, _ => rfl
    | 79, _ => rfl
    | 80, _ => rfl
    | 81, _ => rfl
    | 82, _ => rfl
    | 83, _ => rfl
    | 84, _ => rfl
    | 85, _ => rfl
    | 86, _ => rfl
    | 87, _ => rfl
    | 88, _ => rfl
    | 89, _ => rfl
    | 90, _ => rfl
    | 91, _ => rfl
    | 92, _ => rfl
    | 93, _ => rfl
    | 94, _ => rfl
    | 95, _ => rfl
    | 96, _ => rfl
    | 97, _ => rfl
    | n + 98, _ =>
      show (bif Nat.ble 98 (n + 98) then _ else _) = (bif Nat.ble 98 (n + 98) then _ else _)
      rw [show Nat.ble 98 (n + 98) = true from Nat.ble_eq_true_of_le (by omega)]
      rfl
theorem lyR_rp (lt rt rp v : Option Nat) (sw : Bool) (t : Nat) : mvPut (lyR lt rt rp sw t) 72 0 v = lyR lt rt v sw t := by
  funext o
  by_cases e : o = 72
  · subst e
    funext k
    match k with
    | 0 => rfl
    | 1 => rfl
    | n + 2 => rfl
  · unfold mvPut
    rw [va_up_ne _ _ e]
    match o, e with
    | 0, _ => rfl
    | 1, _ => rfl
    | 2, _ => rfl
    | 3, _ => rfl
    | 4, _ => rfl
    | 5, _ => rfl
    | 6, _ => rfl
    | 7, _ => rfl
    | 8, _ => rfl
    | 9, _ => rfl
    | 10, _ => rfl
    | 11, _ => rfl
    | 12, _ => rfl
    | 13, _ => rfl
    | 14, _ => rfl
    | 15, _ => rfl
    | 16, _ => rfl
    | 17, _ => rfl
    | 18, _ => rfl
    | 19, _ => rfl
    | 20, _ => rfl
    | 21, _ => rfl
    | 22, _ => rfl
    | 23, _ => rfl
    | 24, _ => rfl
    | 25, _ => rfl
    | 26, _ => rfl
    | 27, _ => rfl
    | 28, _ => rfl
    | 29, _ => rfl
    | 30, _ => rfl
    | 31, _ => rfl
    | 32, _ => rfl
    | 33, _ => rfl
    | 34, _ => rfl
    | 35, _ => rfl
    | 36, _ => rfl
    | 37, _ => rfl
    | 38, _ => rfl
    | 39, _ => rfl
    | 40, _ => rfl
    | 41, _ => rfl
    | 42, _ => rfl
    | 43, _ => rfl
    | 44, _ => rfl
    | 45, _ => rfl
    | 46, _ => rfl
    | 47, _ => rfl
    | 48, _ => rfl
    | 49, _ => rfl
    | 50, _ => rfl
    | 51, _ => rfl
    | 52, _ => rfl
    | 53, _ => rfl
    | 54, _ => rfl
    | 55, _ => rfl
    | 56, _ => rfl
    | 57, _ => rfl
    | 58, _ => rfl
    | 59, _ => rfl
    | 60, _ => rfl
    | 61, _ => rfl
    | 62, _ => rfl
    | 63, _ => rfl
    | 64, _ => rfl
    | 65, _ => rfl
    | 66, _ => rfl
    | 67, _ => rfl
    | 68, _ => rfl
    | 69, _ => rfl
    | 70, _ => rfl
    | 71, _ => rfl
    | 73, _ => rfl
    | 74, _ => rfl
    | 75, _ => rfl
    | 76, _ => rfl
    | 77, _ => rfl
    | 78, _ => rfl
    | 79, _ => rfl
    | 80, _ => rfl
    | 81, _ => rfl
    | 82, _ => rfl
    | 83, _ => rfl
    | 84, _ => rfl
    | 85, _ => rfl
    | 86, _ => rfl
    | 87, _ => rfl
    | 88, _ => rfl
    | 89, _ => rfl
    | 90, _ => rfl
    | 91, _ => rfl
    | 92, _ => rfl
    | 93, _ => rfl
    | 94, _ => rfl
    | 95, _ => rfl
    | 96, _ => rfl
    | 97, _ => rfl
    | n + 98, _ =>
      show (bif Nat.ble 98 (n + 98) then _ else _) = (bif Nat.ble 98 (n + 98) then _ else _)
      rw [show Nat.ble 98 (n + 98) = true from Nat.ble_eq_true_of_le (by omega)]
      rfl
theorem NT_46 {b : Nat → Nat} {k n : Nat} (H : NT b k n) : ∀ i, n ≤ i → cdT b k i = 46 := by
  have tk46 : tk b k k = (46, 0, k) := by unfold tk; rw [if_pos (Nat.le_refl _)]
  have p : ∀ d, tP b k (n + d) = k := fun d => by
    induction d with
    | zero => exact H.1
    | succ d ih =>
      show rn isB b k (tk b k (tP b k (n + d))).2.2 = k
      rw [ih, tk46]
      show rn isB b k k = k
      exact rn_e (fun z => absurd z.1 (Nat.lt_irrefl _))
  intro i hi
  obtain ⟨d, rfl⟩ := Nat.exists_eq_add_of_le hi
  unfold cdT
  rw [p d, tk46]
section CG
variable {L t : Nat} {lt rt rp : Option Nat} {sw : Bool} {gl : Nat → Nat → Int64} {b : Nat → Nat} {k x : Nat}
abbrev clr (x : Nat) (h : Nat → Nat → Int32) : Nat → Nat → Int32 := mvPut (mvPut (mvPut (mvPut (mvPut (mvPut (mvPut (mvPut h (98 + 7 * x) 3 (nI 0)) (98 + 7 * x) 5 (nI 0)) (98 + 7 * x + 5) 0 (-1)) (98 + 7 * x + 6) 0 (-1)) (98 + 7 * x + 5) 1 (-1)) (98 + 7 * x + 6) 1 (-1)) (98 + 7 * x + 5) 2 (-1)) (98 + 7 * x + 6) 2 (-1)
theorem e_tclear {h : Nat → Nat → Int32} (hx : x < t) : avE 0 39 [.ref (98 + 7 * x)] (sD L t lt x sw h gl) (none, sD L t lt x sw (clr x h) gl) := by
  show avA _ 39 0 [.ref (98 + 7 * x), mvU] [] _ _
  refine a_aload_0 rfl rfl ?_
  refine a_iconst (v := (nI 0)) rfl rfl rfl ?_
  refine a_puti rfl rfl (congrArg Prod.fst (tx_t hx)) rfl ?_
  refine a_aload_0 rfl rfl ?_
  refine a_iconst (v := (nI 0)) rfl rfl rfl ?_
  refine a_puti rfl rfl (congrArg Prod.fst (tx_t hx)) rfl ?_
  refine a_iconst (v := (nI 0)) rfl rfl rfl ?_
  refine a_istore_1 rfl rfl rfl ?_
  refine a_iload_1 rfl rfl ?_
  refine a_iconst (v := (nI 3)) rfl rfl rfl ?_
  refine a_cmpN_ge rfl rfl rfl (by omega) (by omega) (fun c_14 => absurd c_14 (by decide)) (fun _ => ?_)
  refine a_aload_0 rfl rfl ?_
  refine a_getr rfl rfl (congrArg Prod.fst (tx_t hx)) (fun _ _ _ => rfl) (tx_r6 hx) ?_
  refine a_iload_1 rfl rfl ?_
  refine a_iconst (v := (-1)) rfl rfl rfl ?_
  refine a_iast rfl rfl (tx_5 hx) rfl (by omega) (by decide) ?_
  refine a_aload_0 rfl rfl ?_
  refine a_getr rfl rfl (congrArg Prod.fst (tx_t hx)) (fun _ _ _ => rfl) (tx_r7 hx) ?_
  refine a_iload_1 rfl rfl ?_
  refine a_iconst (v := (-1)) rfl rfl rfl ?_
  refine a_iast rfl rfl (tx_6 hx) rfl (by omega) (by decide) ?_
  refine a_iinc_1 (v := (nI 1)) rfl rfl (by decide) rfl ?_
  refine a_goto rfl rfl ?_
  refine a_iload_1 rfl rfl ?_
  refine a_iconst (v := (nI 3)) rfl rfl rfl ?_
  refine a_cmpN_ge rfl rfl rfl (by omega) (by omega) (fun c_14 => absurd c_14 (by decide)) (fun _ => ?_)
  refine a_aload_0 rfl rfl ?_
  refine a_getr rfl rfl (congrArg Prod.fst (tx_t hx)) (fun _ _ _ => rfl) (tx_r6 hx) ?_
  refine a_iload_1 rfl rfl ?_
  refine a_iconst (v := (-1)) rfl rfl rfl ?_
  refine a_iast rfl rfl (tx_5 hx) rfl (by omega) (by decide) ?_
  refine a_aload_0 rfl rfl ?_
  refine a_getr rfl rfl (congrArg Prod.fst (tx_t hx)) (fun _ _ _ => rfl) (tx_r7 hx) ?_
  refine a_iload_1 rfl rfl ?_
  refine a_iconst (v := (-1)) rfl rfl rfl ?_
  refine a_iast rfl rfl (tx_6 hx) rfl (by omega) (by decide) ?_
  refine a_iinc_1 (v := (nI 2)) rfl rfl (by decide) rfl ?_
  refine a_goto rfl rfl ?_
  refine a_iload_1 rfl rfl ?_
  refine a_iconst (v := (nI 3)) rfl rfl rfl ?_
  refine a_cmpN_ge rfl rfl rfl (by omega) (by omega) (fun c_14 => absurd c_14 (by decide)) (fun _ => ?_)
  refine a_aload_0 rfl rfl ?_
  refine a_getr rfl rfl (congrArg Prod.fst (tx_t hx)) (fun _ _ _ => rfl) (tx_r6 hx) ?_
  refine a_iload_1 rfl rfl ?_
  refine a_iconst (v := (-1)) rfl rfl rfl ?_
  refine a_iast rfl rfl (tx_5 hx) rfl (by omega) (by decide) ?_
  refine a_aload_0 rfl rfl ?_
  refine a_getr rfl rfl (congrArg Prod.fst (tx_t hx)) (fun _ _ _ => rfl) (tx_r7 hx) ?_
  refine a_iload_1 rfl rfl ?_
  refine a_iconst (v := (-1)) rfl rfl rfl ?_
  refine a_iast rfl rfl (tx_6 hx) rfl (by omega) (by decide) ?_
  refine a_iinc_1 (v := (nI 3)) rfl rfl (by decide) rfl ?_
  refine a_goto rfl rfl ?_
  refine a_iload_1 rfl rfl ?_
  refine a_iconst (v := (nI 3)) rfl rfl rfl ?_
  refine a_cmpN_ge rfl rfl rfl (by omega) (by omega) (fun _ => ?_) (fun c_14 => absurd c_14 (by decide))
  exact a_vret rfl rfl
theorem clr_o {h : Nat → Nat → Int32} {p : Nat} (hp : p < 98 + 7 * x ∨ 98 + 7 * x + 7 ≤ p) : (clr x h) p = h p := (put_ne (by omega)).trans ((put_ne (by omega)).trans ((put_ne (by omega)).trans ((put_ne (by omega)).trans ((put_ne (by omega)).trans ((put_ne (by omega)).trans ((put_ne (by omega)).trans (put_ne (by omega))))))))
theorem clr_s {h : Nat → Nat → Int32} {s : Nat} (hs : s < 3) : (clr x h) (98 + 7 * x + 5) s = -1 := by
  simp only [put_at]
  have q : s = 0 ∨ s = 1 ∨ s = 2 := by omega
  rcases q with rfl | rfl | rfl
  · rw [if_neg (by omega), if_neg (by omega), if_neg (by omega), if_neg (by omega), if_neg (by omega), if_pos (by simp)]
  · rw [if_neg (by omega), if_neg (by omega), if_neg (by omega), if_pos (by simp)]
  · rw [if_neg (by omega), if_pos (by simp)]
theorem clr_3 {h : Nat → Nat → Int32} : (clr x h) (98 + 7 * x) 3 = nI 0 ∧ (clr x h) (98 + 7 * x) 5 = nI 0 := by
  simp only [put_at]
  constructor
  · rw [if_neg (by omega), if_neg (by omega), if_neg (by omega), if_neg (by omega), if_neg (by omega), if_neg (by omega), if_neg (by omega), if_pos (by simp)]
  · rw [if_neg (by omega), if_neg (by omega), if_neg (by omega), if_neg (by omega), if_neg (by omega), if_neg (by omega), if_pos (by simp)]
/-- what reading a text changes -/
def FP (x : Nat) (h h' : Nat → Nat → Int32) : Prop := (∀ o, o ≠ 68 → o ≠ 70 → o ≠ 72 → (o < 98 + 7 * x ∨ 98 + 7 * x + 7 ≤ o) → h' o = h o) ∧ ∀ j, j ≠ 3 → j ≠ 4 → j ≠ 5 → h' 68 j = h 68 j
theorem e_parse {h : Nat → Nat → Int32} (hx : x < t) (K : KI h) (T : TP b k h) (hl : ∃ law, law < 3 ∧ h 72 2 = nI law) : ∃ n r h', NT b k n ∧ txO (cdT b k) (nmT b k) (10 * n + 20) (n + 1) X0 0 = some r ∧ avE 82 38 [.ref 72, .ref (98 + 7 * x), .ref 68] (sX L t lt rt rp sw h gl) (none, sD L t lt x sw h' gl) ∧ FP x h h' ∧ RX b k n x h' r h' ∧ ∃ law, law < 3 ∧ h' 72 2 = nI law := by
  obtain ⟨law, l1, l2⟩ := hl
  have e1 : ∀ p, p ≠ 72 → (p < 98 + 7 * x ∨ 98 + 7 * x + 7 ≤ p) → (clr x (mvPut (mvPut h 72 3 (nI 0)) 72 4 (-1))) p = h p := fun p g1 g2 => (clr_o g2).trans ((put_ne g1).trans (put_ne g1))
  have K1 : KI (clr x (mvPut (mvPut h 72 3 (nI 0)) 72 4 (-1))) := by
    unfold KI at K ⊢
    rw [e1 1 (by omega) (by omega), e1 2 (by omega) (by omega), e1 3 (by omega) (by omega), e1 4 (by omega) (by omega), e1 5 (by omega) (by omega), e1 71 (by omega) (by omega)]
    exact K
  have T1 : TP b k (clr x (mvPut (mvPut h 72 3 (nI 0)) 72 4 (-1))) := by
    unfold TP at T ⊢
    rw [e1 68 (by omega) (by omega), e1 69 (by omega) (by omega)]
    exact T
  obtain ⟨h2, n, C2, F2, z4, g2, TK2⟩ := e_cut (L := L) (t := t) (lt := lt) (rt := some (98 + 7 * x)) (rp := some 68) (sw := sw) (gl := gl) K1 T1
  have f72 : h2 72 = (clr x (mvPut (mvPut h 72 3 (nI 0)) 72 4 (-1))) 72 := F2 72 rfl
  have fo : ∀ p, p ≠ 68 → p ≠ 70 → h2 p = (clr x (mvPut (mvPut h 72 3 (nI 0)) 72 4 (-1))) p := fun p a c => F2 p (by simp; omega)
  have N : NT b k n := ⟨TK2.2.1, TK2.2.2.1, TK2.2.2.2.1, T.2.1⟩
  have c72 : (clr x (mvPut (mvPut h 72 3 (nI 0)) 72 4 (-1))) 72 = (mvPut (mvPut h 72 3 (nI 0)) 72 4 (-1)) 72 := clr_o (by omega)
  have X : CX b k n x X0 0 0 h2 := by
    refine ⟨⟨TK2, z4, Nat.zero_le _, T.2.1⟩, ⟨law, l1, ?_⟩, ?_, ?_, ?_, Nat.le_refl _, ?_, ⟨by decide, fun q hq => absurd hq (Nat.not_lt_zero _)⟩, ⟨?_, fun q hq => absurd hq (Nat.not_lt_zero _)⟩, fun s hs => ?_⟩
    · rw [f72, c72]; exact (put_nj (by omega)).trans ((put_nj (by omega)).trans l2)
    · rw [f72, c72]; exact (put_nj (by omega)).trans put_eq
    · rw [f72, c72]; exact put_eq
    · rw [fo _ (by omega) (by omega)]; exact clr_3.2
    · rw [fo _ (by omega) (by omega), e1 1 (by omega) (by omega)]; exact K.1
    · rw [fo _ (by omega) (by omega)]; exact clr_3.1
    · show h2 (98 + 7 * x + 5) s = -1
      rw [fo _ (by omega) (by omega)]; exact clr_s hs
  obtain ⟨r, hr⟩ := txO_end (nm := nmT b k) (NT_46 N) (n + 1) X0 0 (Nat.zero_le _) (by omega)
  obtain ⟨h3, C3, F3, R3⟩ := l_parse (L := L) (lt := lt) (sw := sw) (gl := gl) hx (10 * n + 20) (n + 1) X0 0 0 0 h2 r hr X rfl
  refine ⟨n, r, h3, N, hr, ?_, ?_, ⟨FT_refl, R3⟩, ?_⟩
  · show avA _ 38 0 [.ref 72, .ref (98 + 7 * x), .ref 68, mvU] [] _ _
    refine a_aload_0 rfl rfl ?_
    refine a_aload_1 rfl rfl ?_
    refine a_putrS rfl rfl rfl rfl ?_
    rw [lyR_rt]
    refine a_aload_0 rfl rfl ?_
    refine a_aload_2 rfl rfl ?_
    refine a_putrS rfl rfl rfl rfl ?_
    rw [lyR_rp]
    refine a_aload_0 rfl rfl ?_
    refine a_iconst (v := (nI 0)) rfl rfl rfl ?_
    refine a_puti rfl rfl rfl rfl ?_
    refine a_aload_0 rfl rfl ?_
    refine a_iconst (v := (-1)) rfl rfl rfl ?_
    refine a_puti rfl rfl rfl rfl ?_
    refine a_aload_0 rfl rfl ?_
    refine a_getr rfl rfl rfl (fun _ _ _ => rfl) rfl ?_
    refine a_virt0 rfl rfl (e_tclear hx) (Nat.le_of_ble_eq_true rfl) ⟨rfl, rfl, rfl, rfl⟩ rfl rfl rfl (Nat.le_of_ble_eq_true rfl) (congrArg Prod.fst (tx_t hx)) rfl ?_
    refine a_aload_0 rfl rfl ?_
    refine a_getr rfl rfl rfl (fun _ _ _ => rfl) rfl ?_
    refine a_virt0 rfl rfl (C2) (Nat.le_of_ble_eq_true rfl) ⟨rfl, rfl, rfl, rfl⟩ rfl rfl rfl (Nat.le_of_ble_eq_true rfl) rfl rfl ?_
    refine a_iconst (v := (nI 0)) rfl rfl rfl ?_
    refine a_istore_3 rfl rfl rfl ?_
    exact C3
  · refine ⟨fun o g1 g2' g3 g4 => ?_, fun j g1 g2' g3 => ?_⟩
    · rw [F3.1 o g1 g3 g4, fo o g1 g2', e1 o g3 g4]
    · rw [F3.2.1 j g2', g2 j g1 g2' g3, e1 68 (by omega) (by omega)]
  · exact F3.2.2 X.2.1
end CG
