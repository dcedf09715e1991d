/-! WAYS AND ROOMS -/
abbrev wyV (op : Nat → Bool) (a b i : Int32) : Prop := inC a ∧ inC b ∧ 0 ≤ i.toInt ∧ i.toInt < (btw op b a).toInt
def wyR (op : Nat → Bool) (a b i v : Int32) : Prop := (wyV op a b i → ∃ c, wyP (frF op b) a.toInt.toNat (i.toInt.toNat + 1) c ∧ v = nI c) ∧ (¬ wyV op a b i → v = -2)
theorem wyR_un {op : Nat → Bool} {a b i v w : Int32} (h1 : wyR op a b i v) (h2 : wyR op a b i w) : v = w := by
  by_cases q : wyV op a b i
  · obtain ⟨c, w1, e1⟩ := h1.1 q
    obtain ⟨d, w2, e2⟩ := h2.1 q
    rw [e1, e2, wy_un _ _ _ _ _ w1 w2]
  · rw [h1.2 q, h2.2 q]
theorem fr_cases (op : Nat → Bool) (x : Int32) (c : Nat) : frF op x c = -1 ∨ ∃ k, k < 30 ∧ frF op x c = nI k := by
  rcases fk_cases (g := grow op (sgl x)) (n := 30) (c := c) (by omega) with w | ⟨k, hk, e, _, _⟩
  · exact Or.inl w
  · exact Or.inr ⟨k, hk, e⟩
theorem wyV_of {op : Nat → Bool} {a b i : Int32} (h0 : 0 ≤ i.toInt) (h1 : i.toInt < (btw op b a).toInt) : wyV op a b i := by
  by_cases q : inC b ∧ inC a
  · exact ⟨q.2, q.1, h0, h1⟩
  · unfold btw at h1
    rw [if_neg q, show (-1 : Int32).toInt = -1 from by decide] at h1
    omega
section RY
variable {L t : Nat} {lt rt rp : Option Nat} {sw : Bool} {h : Nat → Nat → Int32} {gl : Nat → Nat → Int64}
/-- the class's loop along the way -/
theorem l_cway (op : Nat → Bool) (g a n i : Nat) (hg : g < 30) (ha : a < 30) (hn : n < 30) (hi : i < n) (hX : frF op (nI g) a = nI n) (c' : Nat) (hc' : wyP (frF op (nI g)) a (i + 1) c') (fx : Int32) (m : Nat) : ∀ (k c : Nat) (h : Nat → Nat → Int32), rPth op (h 9) (h 10) → k + m = i + 1 → c < 30 → wyP (frF op (nI g)) a k c → ∃ F G, avA 4 132 30 [.ref 7, .int (nI a), .int (nI g), .int (nI i), .int fx, .int (nI c), .int (nI k)] [] (sX L t lt rt rp sw h gl) (some (.int (nI c')), sX L t lt rt rp sw (va_up (va_up h 9 F) 10 G) gl) ∧ rPth op F G := by
  induction m with
  | zero =>
    intro k c h hP hk hc w
    have e : k = i + 1 := by omega
    subst e
    have e2 := wy_un _ _ _ _ _ w hc'
    subst e2
    refine ⟨h 9, h 10, ?_, hP⟩
    rw [up_id, up_id]
    refine a_iload_6 rfl rfl ?_
    refine a_iload_3 rfl rfl ?_
    refine a_cmpN_gt rfl rfl rfl (by omega) (by omega) (fun _ => ?_) (fun c_33 => False.elim (by omega))
    refine a_iload_5 rfl rfl ?_
    exact a_iret rfl rfl
  | succ m ih =>
    intro k c h hP hk hc w
    obtain ⟨c1, hc1, w1, e1⟩ := wy_ex op g a n hg ha hn hX (k + 1) (by omega)
    obtain ⟨b, wb, _, q1, q2⟩ := w1
    have eb := wy_un _ _ _ _ _ wb w
    subst eb
    obtain ⟨c2, hc2, w2, e2⟩ := wy_ex op g a n hg ha hn hX k (by omega)
    have eb := wy_un _ _ _ _ _ wb w2
    subst eb
    have ex : frF op (nI g) b = nI ((n - k - 1) + 1) := by rw [e2]; congr 1; omega
    have ev : frF op (nI g) b - 1 = nI (n - k - 1) := by rw [ex]; exact nI_pred _
    rw [ev] at q1 q2
    obtain ⟨F, G, C, hFG⟩ := e_nextTo (L := L) (t := t) (lt := lt) (rt := rt) (rp := rp) (sw := sw) (gl := gl) g b c1 hg hc op (n - k - 1) (by omega) hc1 ex q1 q2 hP
    obtain ⟨F', G', A, hFG'⟩ := ih (k + 1) c1 (va_up (va_up h 9 F) 10 G) hFG (by omega) hc1 ⟨b, wb, hc1, by rw [ev]; exact q1, by rw [ev]; exact q2⟩
    refine ⟨F', G', ?_, hFG'⟩
    refine a_iload_6 rfl rfl ?_
    refine a_iload_3 rfl rfl ?_
    refine a_cmpN_gt rfl rfl rfl (by omega) (by omega) (fun c_33 => False.elim (by omega)) (fun _ => ?_)
    refine a_iload_6 rfl rfl ?_
    refine a_bipush (v := (nI 30)) rfl rfl rfl ?_
    refine a_cmpN_ge rfl rfl rfl (by omega) (by omega) (fun c_40 => False.elim (by omega)) (fun _ => ?_)
    refine a_aload_0 rfl rfl ?_
    refine a_getr rfl rfl rfl (fun _ _ _ => rfl) rfl ?_
    refine a_iload_2 rfl rfl ?_
    refine a_iload_5 rfl rfl ?_
    refine a_virtI rfl rfl (C) (Nat.le_of_ble_eq_true rfl) ⟨rfl, rfl, rfl, rfl⟩ rfl rfl rfl (Nat.le_of_ble_eq_true rfl) rfl rfl ?_
    refine a_istore_5 rfl rfl rfl ?_
    refine a_iinc_6 rfl rfl (nI_inc _ _) rfl ?_
    refine a_goto rfl rfl ?_
    refine av_to A ?_
    rw [up_2 _ _ _ _ _ _ _ (by decide)]
theorem c_way (a b i : Int32) (op : Nat → Bool) (hP : rPth op (h 9) (h 10)) : ∃ v F G, wyR op a b i v ∧ avE 4 132 [.ref 7, .int a, .int b, .int i] (sX L t lt rt rp sw h gl) (some (.int v), sX L t lt rt rp sw (va_up (va_up h 9 F) 10 G) gl) ∧ rPth op F G := by
  obtain ⟨F, G, C, hFG⟩ := e_between (L := L) (t := t) (lt := lt) (rt := rt) (rp := rp) (sw := sw) (gl := gl) b a op hP
  by_cases hv : wyV op a b i
  · have hv0 := hv
    obtain ⟨ha, hb, h0, h1⟩ := hv
    obtain ⟨x, hx, rfl⟩ := inC_of ha
    obtain ⟨y, hy, rfl⟩ := inC_of hb
    obtain ⟨j, hj, ej, _⟩ := cell_of (m := 2147483648) h0 (by have := i.toInt_lt; omega)
    subst ej
    rw [btw_N op hy hx] at C h1
    rw [nI_toInt (by omega)] at h1
    rcases fr_cases op (nI y) x with q | ⟨n, hn, q⟩
    · rw [q, show (-1 : Int32).toInt = -1 from by decide] at h1
      omega
    · rw [q] at C h1
      rw [nI_toInt (by omega)] at h1
      obtain ⟨c, hc, w, _⟩ := wy_ex op y x n hy hx hn q (j + 1) (by omega)
      obtain ⟨F', G', A, hFG'⟩ := l_cway (L := L) (t := t) (lt := lt) (rt := rt) (rp := rp) (sw := sw) (gl := gl) op y x n j hy hx hn (by omega) q c w (nI n) (j + 1) 0 x (va_up (va_up h 9 F) 10 G) hFG (by omega) hx rfl
      refine ⟨nI c, F', G', ⟨fun _ => ⟨c, by rw [nI_toInt (by omega), nI_toInt (by omega)]; exact w, rfl⟩, fun q => absurd hv0 q⟩, ?_, hFG'⟩
      show avA _ 132 0 [.ref 7, .int (nI (x)), .int (nI (y)), .int (nI (j)), mvU, mvU, mvU] [] _ _
      refine a_aload_0 rfl rfl ?_
      refine a_getr rfl rfl rfl (fun _ _ _ => rfl) rfl ?_
      refine a_iload_2 rfl rfl ?_
      refine a_iload_1 rfl rfl ?_
      refine a_virtI rfl rfl (C) (Nat.le_of_ble_eq_true rfl) ⟨rfl, rfl, rfl, rfl⟩ rfl rfl rfl (Nat.le_of_ble_eq_true rfl) rfl rfl ?_
      refine a_istore_4 rfl rfl rfl ?_
      refine a_iload_3 rfl rfl ?_
      refine a_ifN_lt rfl rfl rfl (by omega) (fun c_12 => False.elim (c_12)) (fun _ => ?_)
      refine a_iload_3 rfl rfl ?_
      refine a_iload_4 rfl rfl ?_
      refine a_cmpN_lt rfl rfl rfl (by omega) (by omega) (fun _ => ?_) (fun c_18 => False.elim (by omega))
      refine a_iload_1 rfl rfl ?_
      refine a_istore_5 rfl rfl rfl ?_
      refine a_iconst (v := (nI 0)) rfl rfl rfl ?_
      refine a_istore_6 rfl rfl rfl ?_
      refine av_to A ?_
      rw [up_2 _ _ _ _ _ _ _ (by decide)]
  · refine ⟨-2, F, G, ⟨fun q => absurd q hv, fun _ => rfl⟩, ?_, hFG⟩
    show avA _ 132 0 [.ref 7, .int (a), .int (b), .int (i), mvU, mvU, mvU] [] _ _
    refine a_aload_0 rfl rfl ?_
    refine a_getr rfl rfl rfl (fun _ _ _ => rfl) rfl ?_
    refine a_iload_2 rfl rfl ?_
    refine a_iload_1 rfl rfl ?_
    refine a_virtI rfl rfl (C) (Nat.le_of_ble_eq_true rfl) ⟨rfl, rfl, rfl, rfl⟩ rfl rfl rfl (Nat.le_of_ble_eq_true rfl) rfl rfl ?_
    refine a_istore_4 rfl rfl rfl ?_
    refine a_iload_3 rfl rfl ?_
    refine a_ifI_lt rfl rfl rfl rfl (fun c_12 => ?_) (fun c_12 => ?_)
    · refine a_bipush (v := (-2)) rfl rfl rfl ?_
      exact a_iret rfl rfl
    · refine a_iload_3 rfl rfl ?_
      refine a_iload_4 rfl rfl ?_
      refine a_cmpI_lt rfl rfl rfl rfl rfl (fun c_18 => False.elim (hv (wyV_of (by omega) c_18))) (fun _ => ?_)
      refine a_bipush (v := (-2)) rfl rfl rfl ?_
      exact a_iret rfl rfl
/-- the reference's search of the next cell -/
theorem l_rway1 {r : Option Value × mvSt} (X : Nat → Int32) (hX : ∀ j, j < 30 → h 91 j = X j) (a g i c k e : Nat) (hc : c < 30) (he : e < 30) (h1 : nxP X c (X c - 1) e = true) (h2 : ∀ j, j < e → nxP X c (X c - 1) j = false) (m : Nat) : ∀ (x : Nat), x + m = e → avA 5 290 102 [.ref 81, .int (nI a), .int (nI g), .int (nI i), .int (nI c), .int (nI k), .int (nI e)] [] (sX L t lt rt rp sw h gl) r → avA 5 290 64 [.ref 81, .int (nI a), .int (nI g), .int (nI i), .int (nI c), .int (nI k), .int (nI x)] [] (sX L t lt rt rp sw h gl) r := by
  induction m with
  | zero =>
    intro x hx Z
    have ex : x = e := by omega
    subst ex
    unfold nxP at h1
    simp only [Bool.and_eq_true, decide_eq_true_eq] at h1
    refine a_iload_4 rfl rfl ?_
    refine a_statI rfl rfl (r_beside c hc) (Nat.le_of_ble_eq_true rfl) ⟨rfl, rfl, rfl⟩ rfl rfl rfl (Nat.le_of_ble_eq_true rfl) rfl ?_
    refine a_iload_6 rfl rfl ?_
    refine a_statI rfl rfl (r_has _ x (by omega)) (Nat.le_of_ble_eq_true rfl) ⟨rfl, rfl, rfl⟩ rfl rfl rfl (Nat.le_of_ble_eq_true rfl) rfl ?_
    refine a_ifb_eq rfl rfl rfl (fun c_74 => False.elim (by rw [tb_bs (by omega)] at c_74; exact c_74 (by simp [he, h1.1]))) (fun _ => ?_)
    refine a_aload_0 rfl rfl ?_
    refine a_getr rfl rfl rfl (fun _ _ _ => rfl) rfl ?_
    refine a_iload_6 rfl rfl ?_
    refine a_iald rfl rfl (Or.inl rfl) rfl (by omega) (by decide) ?_
    refine a_as (y := _) (hX x he) ?_
    refine a_aload_0 rfl rfl ?_
    refine a_getr rfl rfl rfl (fun _ _ _ => rfl) rfl ?_
    refine a_iload_4 rfl rfl ?_
    refine a_iald rfl rfl (Or.inl rfl) rfl (by omega) (by decide) ?_
    refine a_as (y := _) (hX c hc) ?_
    refine a_iconst (v := (nI 1)) rfl rfl rfl ?_
    refine a_isub rfl rfl ?_
    refine a_cmp_eq rfl rfl rfl (fun _ => ?_) (fun c_93 => by first | exact absurd h1.2 c_93 | exact absurd c_93 h1.2)
    exact Z
  | succ m ih =>
    intro x hx Z
    have n2 := h2 x (by omega)
    unfold nxP at n2
    refine a_iload_4 rfl rfl ?_
    refine a_statI rfl rfl (r_beside c hc) (Nat.le_of_ble_eq_true rfl) ⟨rfl, rfl, rfl⟩ rfl rfl rfl (Nat.le_of_ble_eq_true rfl) rfl ?_
    refine a_iload_6 rfl rfl ?_
    refine a_statI rfl rfl (r_has _ x (by omega)) (Nat.le_of_ble_eq_true rfl) ⟨rfl, rfl, rfl⟩ rfl rfl rfl (Nat.le_of_ble_eq_true rfl) rfl ?_
    refine a_ifb_eq rfl rfl rfl (fun c_74 => ?_) (fun c_74 => ?_)
    · refine a_iinc_6 rfl rfl (nI_inc _ _) rfl ?_
      refine a_goto rfl rfl ?_
      exact ih (x + 1) (by omega) Z
    · refine a_aload_0 rfl rfl ?_
      refine a_getr rfl rfl rfl (fun _ _ _ => rfl) rfl ?_
      refine a_iload_6 rfl rfl ?_
      refine a_iald rfl rfl (Or.inl rfl) rfl (by omega) (by decide) ?_
      refine a_as (y := _) (hX x (by omega)) ?_
      refine a_aload_0 rfl rfl ?_
      refine a_getr rfl rfl rfl (fun _ _ _ => rfl) rfl ?_
      refine a_iload_4 rfl rfl ?_
      refine a_iald rfl rfl (Or.inl rfl) rfl (by omega) (by decide) ?_
      refine a_as (y := _) (hX c hc) ?_
      refine a_iconst (v := (nI 1)) rfl rfl rfl ?_
      refine a_isub rfl rfl ?_
      refine a_cmp_eq rfl rfl rfl (fun c_93 => False.elim (by rw [tb_bs (by omega)] at c_74; simp only [Bool.and_eq_true, decide_eq_true_eq] at c_74; rw [c_74.2, show X c - 1 = X c - nI 1 from rfl, c_93] at n2; simp at n2)) (fun _ => ?_)
      refine a_iinc_6 rfl rfl (nI_inc _ _) rfl ?_
      refine a_goto rfl rfl ?_
      exact ih (x + 1) (by omega) Z
end RY
