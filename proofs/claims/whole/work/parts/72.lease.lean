/-! THE LEASE: choosing; the reference's sets; both -/
section LC
variable {L t : Nat} {lt rt rp : Option Nat} {sw : Bool} {gl : Nat → Nat → Int64} {g : Nat → Int}
theorem l_choose (hg : ∀ i, i < 12 → -99 ≤ g i ∧ g i ≤ 99) {gap k : Nat} (hgap : gap ≤ 11) (hk : k ≤ 12) (b : Nat → Bool) (n : Nat) : ∀ (m l nx : Nat) (h : Nat → Nat → Int32), m + n = 12 → l ≤ k → nx ≤ 30 → (∀ i, i < 12 → h 32 i = iI (g i)) → TL g gap k 12 h → (∀ i, m ≤ i → i < 12 → b i = lB g gap (12 - max m nx) l i) → h 78 2 = bsI m b → h 78 1 = iI (lG g b 12 - lG g b (12 - m)) → ∃ h', avA 1 167 19 [.ref 78, .ref 32, .int (nI k), .int (nI gap), .int (nI l), .int (nI nx), .int (nI m)] [] (sX L t lt rt rp sw h gl) (none, sX L t lt rt rp sw h' gl) ∧ CF [78] h h' ∧ h' 78 2 = bsI 12 b ∧ h' 78 1 = iI (lG g b 12) := by
  induction n with
  | zero =>
    intro m l nx h hm hl hn G T B h2 h1
    have e : m = 12 := by omega
    subst e
    refine ⟨h, ?_, CF_refl, h2, ?_⟩
    · refine a_iload_6 rfl rfl ?_
      refine a_bipush (v := (nI 12)) rfl rfl rfl ?_
      refine a_cmpN_ge rfl rfl rfl (by omega) (by omega) (fun _ => ?_) (fun c_23 => absurd c_23 (by decide))
      exact a_vret rfl rfl
    · rw [h1]
      show iI (lG g b 12 - 0) = _
      rw [Int.sub_zero]
  | succ n ih =>
    intro m l nx h hm hl hn G T B h2 h1
    have gs : lG g b (12 - m) = (if b m = true then g m else 0) + lG g b (12 - (m + 1)) := by
      rw [show 12 - m = (11 - m) + 1 by omega, lG, show 11 - (11 - m) = m by omega, show 11 - m = 12 - (m + 1) by omega]
    match l with
    | 0 =>
      have z : ∀ i, m ≤ i → i < 12 → b i = false := fun i x y => by rw [B i x y, lB_0]
      obtain ⟨a, _, _⟩ := l_skip (g := g) (gap := gap) (s := b) (j' := 0) (12 - m) (12 - m) (by omega) (by omega) (fun i x y => z i (by omega) (by omega))
      refine ⟨h, ?_, CF_refl, ?_, ?_⟩
      · refine a_iload_6 rfl rfl ?_
        refine a_bipush (v := (nI 12)) rfl rfl rfl ?_
        refine a_cmpN_ge rfl rfl rfl (by omega) (by omega) (fun c_23 => False.elim (by omega)) (fun _ => ?_)
        refine a_iload_4 rfl rfl ?_
        refine a_ifN_le rfl rfl rfl (by omega) (fun _ => ?_) (fun c_28 => absurd c_28 (by decide))
        exact a_vret rfl rfl
      · have q : ∀ d, m + d ≤ 12 → bsI (m + d) b = bsI m b := by
          intro d
          induction d with
          | zero => intro _; rfl
          | succ d ihd => intro hd; rw [← Nat.add_assoc, bs_succF (z (m + d) (by omega) (by omega)), ihd (by omega)]
        rw [h2, ← q (12 - m) (by omega), show m + (12 - m) = 12 by omega]
      · rw [h1, a]
        show iI (lG g b 12 - 0) = _
        rw [Int.sub_zero]
    | l + 1 =>
      by_cases c : m < nx
      · have bm : b m = false := by rw [B m (by omega) (by omega)]; exact lB_out (by omega) (by omega)
        rw [bm, if_neg (by simp), Int.zero_add] at gs
        obtain ⟨h', Z, cf, q⟩ := ih (m + 1) (l + 1) nx h (by omega) hl hn G T (fun i x y => by rw [B i (by omega) y, show max m nx = max (m + 1) nx by omega]) (by rw [h2, bs_succF bm]) (by rw [h1, gs])
        refine ⟨h', ?_, cf, q⟩
        refine a_iload_6 rfl rfl ?_
        refine a_bipush (v := (nI 12)) rfl rfl rfl ?_
        refine a_cmpN_ge rfl rfl rfl (by omega) (by omega) (fun c_23 => False.elim (by omega)) (fun _ => ?_)
        refine a_iload_4 rfl rfl ?_
        refine a_ifN_le rfl rfl rfl (by omega) (fun c_28 => False.elim (by omega)) (fun _ => ?_)
        refine a_iload_6 rfl rfl ?_
        refine a_iload_5 rfl rfl ?_
        refine a_cmpN_lt rfl rfl rfl (by omega) (by omega) (fun _ => ?_) (fun c_35 => False.elim (by omega))
        refine a_iinc_6 rfl rfl (nI_inc _ _) rfl ?_
        refine a_goto rfl rfl ?_
        exact Z
      · have w0 := lW_b (gap := gap) hg 12 (11 - m + 1) (l + 1) (by omega) (by omega)
        have w2 := lW_b (gap := gap) hg 12 (11 - m - gap) l (by omega) (by omega)
        have w3 := hg m (by omega)
        have t0 : h 79 (m * 13 + (l + 1)) = iI (lW g gap (11 - m + 1) (l + 1)) := by
          have := T (11 - m + 1) (l + 1) (by omega) (by omega)
          rw [show 12 - (11 - m + 1) = m by omega] at this
          exact this
        have t2 : h 79 (min 12 (m + gap + 1) * 13 + l) = iI (lW g gap (11 - m - gap) l) := by rw [show min 12 (m + gap + 1) = 12 - (11 - m - gap) by omega]; exact T (11 - m - gap) l (by omega) (by omega)
        have C := e_worthWith (L := L) (t := t) (lt := lt) (rt := rt) (rp := rp) (sw := sw) (gl := gl) hgap (by omega) (by omega) (G m (by omega)) t2
        have em : 12 - max m nx = 11 - m + 1 := by omega
        by_cases k0 : lW g gap (11 - m + 1) (l + 1) = g m * 16 - 1 + lW g gap (11 - m - gap) l
        · have kT := lB_T (g := g) (gap := gap) (j := 11 - m) (l := l) (by rw [show 11 - (11 - m) = m by omega]; exact k0)
          rw [show 11 - (11 - m) = m by omega] at kT
          have bm : b m = true := by rw [B m (by omega) (by omega), em, kT]; simp
          rw [bm, if_pos rfl] at gs
          obtain ⟨h', Z, cf, q⟩ := ih (m + 1) l (m + gap + 1) (mvPut (mvPut h 78 2 (bsI (m + 1) b)) 78 1 (iI (lG g b 12 - lG g b (12 - m) + g m))) (by omega) (by omega) (by omega) G T (fun i x y => by
            rw [B i (by omega) y, em, kT, show 12 - max (m + 1) (m + gap + 1) = 11 - m - gap by omega]
            have : ¬ i = m := by omega
            simp [this]) (by rw [put_at, put_at]; simp) (by rw [put_at, gs]; simp; congr 1; omega)
          refine ⟨h', ?_, CF_trans (CF_put (CF_put CF_refl rfl) rfl) cf, q⟩
          refine a_iload_6 rfl rfl ?_
          refine a_bipush (v := (nI 12)) rfl rfl rfl ?_
          refine a_cmpN_ge rfl rfl rfl (by omega) (by omega) (fun c_23 => False.elim (by omega)) (fun _ => ?_)
          refine a_iload_4 rfl rfl ?_
          refine a_ifN_le rfl rfl rfl (by omega) (fun c_28 => False.elim (by omega)) (fun _ => ?_)
          refine a_iload_6 rfl rfl ?_
          refine a_iload_5 rfl rfl ?_
          refine a_cmpN_lt rfl rfl rfl (by omega) (by omega) (fun c_35 => False.elim (by omega)) (fun _ => ?_)
          refine a_aload_0 rfl rfl ?_
          refine a_getr rfl rfl rfl (fun _ _ _ => rfl) rfl ?_
          refine a_iload_6 rfl rfl ?_
          refine a_bipush (v := (nI 13)) rfl rfl rfl ?_
          refine a_imulN rfl rfl ?_
          refine a_iload_4 rfl rfl ?_
          refine a_iaddN rfl rfl ?_
          refine a_iald rfl rfl (Or.inl rfl) rfl (by omega) (by decide) ?_
          refine a_as (y := iI (lW g gap (11 - m + 1) (l + 1))) t0 ?_
          refine a_aload_0 rfl rfl ?_
          refine a_aload_1 rfl rfl ?_
          refine a_iload_6 rfl rfl ?_
          refine a_iload_4 rfl rfl ?_
          refine a_iload_3 rfl rfl ?_
          refine a_virtI rfl rfl (C) (Nat.le_of_ble_eq_true rfl) ⟨rfl, rfl, rfl, rfl⟩ rfl rfl rfl (Nat.le_of_ble_eq_true rfl) rfl rfl ?_
          refine a_cmpI_ne rfl rfl rfl (iI_toInt (by omega) (by omega)) (iI_toInt (by omega) (by omega)) (fun c_61 => False.elim (by omega)) (fun _ => ?_)
          refine a_aload_0 rfl rfl ?_
          refine a_dup rfl rfl rfl ?_
          refine a_geti rfl rfl rfl (fun _ _ _ => rfl) ?_
          refine a_as (y := bsI m b) h2 ?_
          refine a_iconst (v := (nI 1)) rfl rfl rfl ?_
          refine a_iload_6 rfl rfl ?_
          refine a_ishl rfl rfl ?_
          refine a_ior rfl rfl ?_
          refine a_as (y := bsI (m + 1) b) (bs_succT (by omega) bm) ?_
          refine a_puti rfl rfl rfl rfl ?_
          refine a_aload_0 rfl rfl ?_
          refine a_dup rfl rfl rfl ?_
          refine a_geti rfl rfl rfl (fun _ _ _ => rfl) ?_
          refine a_as (y := iI (lG g b 12 - lG g b (12 - m))) (by rw [put_at]; simp; exact h1) ?_
          refine a_aload_1 rfl rfl ?_
          refine a_iload_6 rfl rfl ?_
          refine a_iald rfl rfl (Or.inl rfl) rfl (by omega) (by decide) ?_
          refine a_as (y := iI (g m)) (by rw [put_at]; simp; exact G m (by omega)) ?_
          refine a_iaddZ rfl rfl ?_
          refine a_puti rfl rfl rfl rfl ?_
          refine a_iinc_4 rfl rfl (nI_dec _ 1 (by omega)) rfl ?_
          refine a_iload_6 rfl rfl ?_
          refine a_iload_3 rfl rfl ?_
          refine a_iaddN rfl rfl ?_
          refine a_iconst (v := (nI 1)) rfl rfl rfl ?_
          refine a_iaddN rfl rfl ?_
          refine a_istore_5 rfl rfl rfl ?_
          refine a_iinc_6 rfl rfl (nI_inc _ _) rfl ?_
          refine a_goto rfl rfl ?_
          exact Z
        · have kF := lB_F (g := g) (gap := gap) (j := 11 - m) (l := l) (by rw [show 11 - (11 - m) = m by omega]; exact k0)
          have bm : b m = false := by rw [B m (by omega) (by omega), em, kF]; exact lB_out (by omega) (by omega)
          rw [bm, if_neg (by simp), Int.zero_add] at gs
          obtain ⟨h', Z, cf, q⟩ := ih (m + 1) (l + 1) nx h (by omega) hl hn G T (fun i x y => by rw [B i (by omega) y, em, kF, show 12 - max (m + 1) nx = 11 - m by omega]) (by rw [h2, bs_succF bm]) (by rw [h1, gs])
          refine ⟨h', ?_, cf, q⟩
          refine a_iload_6 rfl rfl ?_
          refine a_bipush (v := (nI 12)) rfl rfl rfl ?_
          refine a_cmpN_ge rfl rfl rfl (by omega) (by omega) (fun c_23 => False.elim (by omega)) (fun _ => ?_)
          refine a_iload_4 rfl rfl ?_
          refine a_ifN_le rfl rfl rfl (by omega) (fun c_28 => False.elim (by omega)) (fun _ => ?_)
          refine a_iload_6 rfl rfl ?_
          refine a_iload_5 rfl rfl ?_
          refine a_cmpN_lt rfl rfl rfl (by omega) (by omega) (fun c_35 => False.elim (by omega)) (fun _ => ?_)
          refine a_aload_0 rfl rfl ?_
          refine a_getr rfl rfl rfl (fun _ _ _ => rfl) rfl ?_
          refine a_iload_6 rfl rfl ?_
          refine a_bipush (v := (nI 13)) rfl rfl rfl ?_
          refine a_imulN rfl rfl ?_
          refine a_iload_4 rfl rfl ?_
          refine a_iaddN rfl rfl ?_
          refine a_iald rfl rfl (Or.inl rfl) rfl (by omega) (by decide) ?_
          refine a_as (y := iI (lW g gap (11 - m + 1) (l + 1))) t0 ?_
          refine a_aload_0 rfl rfl ?_
          refine a_aload_1 rfl rfl ?_
          refine a_iload_6 rfl rfl ?_
          refine a_iload_4 rfl rfl ?_
          refine a_iload_3 rfl rfl ?_
          refine a_virtI rfl rfl (C) (Nat.le_of_ble_eq_true rfl) ⟨rfl, rfl, rfl, rfl⟩ rfl rfl rfl (Nat.le_of_ble_eq_true rfl) rfl rfl ?_
          refine a_cmpI_ne rfl rfl rfl (iI_toInt (by omega) (by omega)) (iI_toInt (by omega) (by omega)) (fun _ => ?_) (fun c_61 => False.elim (by omega))
          refine a_iinc_6 rfl rfl (nI_inc _ _) rfl ?_
          refine a_goto rfl rfl ?_
          exact Z
theorem e_choose (hg : ∀ i, i < 12 → -99 ≤ g i ∧ g i ≤ 99) {gap k : Nat} (hgap : gap ≤ 11) (hk : k ≤ 12) {h : Nat → Nat → Int32} (G : ∀ i, i < 12 → h 32 i = iI (g i)) (T : TL g gap k 12 h) : ∃ h', avE 1 167 [.ref 78, .ref 32, .int (nI k), .int (nI gap)] (sX L t lt rt rp sw h gl) (none, sX L t lt rt rp sw h' gl) ∧ CF [78] h h' ∧ h' 78 2 = bsI 12 (lB g gap 12 k) ∧ h' 78 1 = iI (lG g (lB g gap 12 k) 12) := by
  obtain ⟨h', Z, cf, q⟩ := l_choose (L := L) (t := t) (lt := lt) (rt := rt) (rp := rp) (sw := sw) (gl := gl) hg hgap hk (lB g gap 12 k) 12 0 k 0 (mvPut (mvPut h 78 1 (nI 0)) 78 2 (nI 0)) (by omega) (by omega) (by omega) G T (fun _ _ _ => rfl) (by rw [put_at]; simp; exact (bs_0 _).symm) (by rw [put_at, put_at]; simp; rfl)
  refine ⟨h', ?_, CF_trans (CF_put (CF_put CF_refl rfl) rfl) cf, q⟩
  show avA _ 167 0 [.ref 78, .ref 32, .int (nI (k)), .int (nI (gap)), mvU, mvU, mvU] [] _ _
  refine a_aload_0 rfl rfl ?_
  refine a_iconst (v := (nI 0)) rfl rfl rfl ?_
  refine a_puti rfl rfl rfl rfl ?_
  refine a_aload_0 rfl rfl ?_
  refine a_iconst (v := (nI 0)) rfl rfl rfl ?_
  refine a_puti rfl rfl rfl rfl ?_
  refine a_iload_2 rfl rfl ?_
  refine a_istore_4 rfl rfl rfl ?_
  refine a_iconst (v := (nI 0)) rfl rfl rfl ?_
  refine a_istore_5 rfl rfl rfl ?_
  refine a_iconst (v := (nI 0)) rfl rfl rfl ?_
  refine a_istore_6 rfl rfl rfl ?_
  exact Z
theorem e_plan (hg : ∀ i, i < 12 → -99 ≤ g i ∧ g i ≤ 99) {gap k : Nat} (hgap : gap ≤ 11) (hk : k ≤ 12) {h : Nat → Nat → Int32} (G : ∀ i, i < 12 → h 32 i = iI (g i)) (Z : LZ h) : ∃ h', avE 2 165 [.ref 78, .ref 32, .int (nI k), .int (nI gap)] (sX L t lt rt rp sw h gl) (none, sX L t lt rt rp sw h' gl) ∧ CF [78, 79] h h' ∧ LZ h' ∧ h' 78 2 = bsI 12 (lB g gap 12 k) ∧ h' 78 1 = iI (lG g (lB g gap 12 k) 12) := by
  obtain ⟨h1, y5, y6, b1, b2, c1, Z1, T1, Q1⟩ := l_plan2 (L := L) (t := t) (lt := lt) (rt := rt) (rp := rp) (sw := sw) (gl := gl) hg hgap hk 11 0 h mvU mvU rfl rfl rfl G (fun i l hi hl => by
    have : i = 0 := by omega
    subst this
    rw [lW_00]
    exact Z.2 l (by omega)) Z
  obtain ⟨h', C, c2, q1, q2⟩ := e_choose (L := L) (t := t) (lt := lt) (rt := rt) (rp := rp) (sw := sw) (gl := gl) hg hgap hk (by rw [c1 32 rfl]; exact G) T1
  refine ⟨h', ?_, CF_trans (CF_mono (by decide) c1) (CF_mono (by decide) c2), ?_, q1, q2⟩
  · have Q2 : avA 2 165 75 [.ref 78, .ref 32, .int (nI k), .int (nI gap), .int (-1), y5, y6] [] (sX L t lt rt rp sw h1 gl) (none, sX L t lt rt rp sw h' gl) := by
      refine a_aload_0 rfl rfl ?_
      refine a_aload_1 rfl rfl ?_
      refine a_iload_2 rfl rfl ?_
      refine a_iload_3 rfl rfl ?_
      refine a_virt0 rfl rfl (C) (Nat.le_of_ble_eq_true rfl) ⟨rfl, rfl, rfl, rfl⟩ rfl rfl rfl (Nat.le_of_ble_eq_true rfl) rfl rfl ?_
      exact a_vret rfl rfl
    have Q := Q1 _ Q2
    show avA _ 165 0 [.ref 78, .ref 32, .int (nI (k)), .int (nI (gap)), mvU, mvU, mvU] [] _ _
    refine a_bipush (v := (nI 11)) rfl rfl rfl ?_
    refine a_istore_4 rfl rfl rfl ?_
    exact Q
  · unfold LZ
    rw [c2 79 rfl]
    exact Z1
end LC
