/-! DEEDS: the reference -/
def FB (ad : Nat) (h h' : Nat → Nat → Int32) : Prop := (∀ o, o ≠ 81 → o ≠ 84 → h' o = h o) ∧ (∀ j, j < 7 ∨ 10 < j → h' 81 j = h 81 j) ∧ ∀ q, q ≠ ad + 1 → q ≠ ad + 2 → h' 84 q = h 84 q
theorem FB_refl {ad : Nat} {h : Nat → Nat → Int32} : FB ad h h := ⟨fun _ _ _ => rfl, fun _ _ => rfl, fun _ _ _ => rfl⟩
theorem FB_trans {ad : Nat} {h h' h'' : Nat → Nat → Int32} (H : FB ad h h') (G : FB ad h' h'') : FB ad h h'' := ⟨fun o a b => (G.1 o a b).trans (H.1 o a b), fun j a => (G.2.1 j a).trans (H.2.1 j a), fun q a b => (G.2.2 q a b).trans (H.2.2 q a b)⟩
theorem F81_FB {ad : Nat} {h h' : Nat → Nat → Int32} (F : F81 h h') : FB ad h h' := ⟨fun o a _ => F.1 o (by simp; omega), F.2, fun q _ _ => by rw [F.1 84 rfl]⟩
/-- what a deed's reading says -/
def RD2 (b : Nat → Nat) (k n ad s : Nat) (h : Nat → Nat → Int32) (r : Rb) (v : Int32) (h' : Nat → Nat → Int32) (gl' : Nat → Nat → Int64) : Prop := FB ad h h' ∧ match r with
  | .inl (a, c, j) => v = nI 0 ∧ TS b k n j h' gl' ∧ (has1 s → h' 84 (ad + 1) = nI a) ∧ (has2 s → h' 84 (ad + 2) = nI c)
  | .inr (c, j) => v = nI c ∧ (c = 1 ∨ c = 2) ∧ TS b k n j h' gl'
section DR
variable {L t : Nat} {lt rt rp : Option Nat} {sw : Bool} {b : Nat → Nat} {k n i : Nat}
/-- a figure, to be written at ad -/
theorem r_fig {h : Nat → Nat → Int32} {gl : Nat → Nat → Int64} (T : TS b k n i h gl) (ad lo hi : Nat) (had : ad < 2724) (hl : lo ≤ 60) (hh : hi ≤ 60) : ∃ v h' gl', avE 2 214 [.ref 81, .int (nI ad), .int (nI lo), .int (nI hi)] (sX L t lt rt rp sw h gl) (some (.int v), sX L t lt rt rp sw h' gl') ∧ (if cdT b k i = 45 then (if nmT b k i < lo ∨ hi < nmT b k i then v = nI 2 ∧ h' = h ∧ gl' = gl else v = nI 0 ∧ TS b k n (i + 1) h' gl' ∧ F81 (mvPut h 84 ad (nI (nmT b k i))) h') else v = nI 1 ∧ h' = h ∧ gl' = gl) := by
  obtain ⟨_, _, τ, w1, w3, w5, _⟩ := id T.2.2.1
  have w3' : TR (cdT b k i) τ := w3
  have tf := TR_iff w3'
  have t1 := tf.1
  have t64 := tf.2.2.2.2.2.2.2.2.2.2.2.2.2.2.2.2.2
  clear tf w3 w3'
  by_cases q1 : cdT b k i = 45
  · obtain ⟨r, n1, n2, n3⟩ := w5 (t1.mpr q1)
    have n3' : min r 10000 = nmT b k i := n3
    have II := r_isIn (σ := sX L t lt rt rp sw h gl) (nI r) (nI lo) (nI hi)
    rw [nI_toInt (by omega), nI_toInt (by omega), nI_toInt (by omega)] at II
    by_cases q2 : nmT b k i < lo ∨ hi < nmT b k i
    · refine ⟨nI 2, h, gl, ?_, by rw [if_pos q1, if_pos q2]; exact ⟨rfl, rfl, rfl⟩⟩
      show avA _ 214 0 [.ref 81, .int (nI (ad)), .int (nI (lo)), .int (nI (hi))] [] _ _
      refine a_aload_0 rfl rfl ?_
      refine a_geti rfl rfl rfl (fun _ _ _ => rfl) ?_
      refine a_as (y := nI (τ)) w1 ?_
      refine a_iconst (v := (nI 1)) rfl rfl rfl ?_
      refine a_cmpN_eq rfl rfl rfl (by omega) (by omega) (fun _ => ?_) (fun c_5 => False.elim (by omega))
      refine a_aload_0 rfl rfl ?_
      refine a_geti rfl rfl rfl (fun _ _ _ => rfl) ?_
      refine a_as (y := nI (r)) n1 ?_
      refine a_iload_2 rfl rfl ?_
      refine a_iload_3 rfl rfl ?_
      refine a_statI rfl rfl (II) (Nat.le_of_ble_eq_true rfl) ⟨rfl, rfl, rfl⟩ rfl rfl rfl (Nat.le_of_ble_eq_true rfl) rfl ?_
      refine a_ifb_ne rfl rfl rfl (fun c_19 => False.elim (by omega)) (fun _ => ?_)
      refine a_iconst (v := (nI 2)) rfl rfl rfl ?_
      exact a_iret rfl rfl
    · have er : r = nmT b k i := by omega
      have hn := NT_lt T.2.1 T.2.2.2 (by omega)
      have T1 : TS b k n i (mvPut h 84 ad (nI (nmT b k i))) gl := TS_of T (fun j hj => put_o (by omega)) (put_ne (by omega))
      obtain ⟨h2, gl2, C2, F2, T2⟩ := r_nx (L := L) (t := t) (lt := lt) (rt := rt) (rp := rp) (sw := sw) T1 hn
      refine ⟨nI 0, h2, gl2, ?_, by rw [if_pos q1, if_neg q2]; exact ⟨rfl, T2, F2⟩⟩
      show avA _ 214 0 [.ref 81, .int (nI (ad)), .int (nI (lo)), .int (nI (hi))] [] _ _
      refine a_aload_0 rfl rfl ?_
      refine a_geti rfl rfl rfl (fun _ _ _ => rfl) ?_
      refine a_as (y := nI (τ)) w1 ?_
      refine a_iconst (v := (nI 1)) rfl rfl rfl ?_
      refine a_cmpN_eq rfl rfl rfl (by omega) (by omega) (fun _ => ?_) (fun c_5 => False.elim (by omega))
      refine a_aload_0 rfl rfl ?_
      refine a_geti rfl rfl rfl (fun _ _ _ => rfl) ?_
      refine a_as (y := nI (r)) n1 ?_
      refine a_iload_2 rfl rfl ?_
      refine a_iload_3 rfl rfl ?_
      refine a_statI rfl rfl (II) (Nat.le_of_ble_eq_true rfl) ⟨rfl, rfl, rfl⟩ rfl rfl rfl (Nat.le_of_ble_eq_true rfl) rfl ?_
      refine a_ifb_ne rfl rfl rfl (fun _ => ?_) (fun c_19 => False.elim (by omega))
      refine a_aload_0 rfl rfl ?_
      refine a_getr rfl rfl rfl (fun _ _ _ => rfl) rfl ?_
      refine a_iload_1 rfl rfl ?_
      refine a_aload_0 rfl rfl ?_
      refine a_geti rfl rfl rfl (fun _ _ _ => rfl) ?_
      refine a_as (y := nI (nmT b k i)) (n1.trans (congrArg nI er)) ?_
      refine a_iast rfl rfl rfl rfl (by omega) (by decide) ?_
      refine a_aload_0 rfl rfl ?_
      refine a_virt0 rfl rfl (C2) (Nat.le_of_ble_eq_true rfl) ⟨rfl, rfl, rfl, rfl⟩ rfl rfl rfl (Nat.le_of_ble_eq_true rfl) rfl rfl ?_
      refine a_iconst (v := (nI 0)) rfl rfl rfl ?_
      exact a_iret rfl rfl
  · refine ⟨nI 1, h, gl, ?_, by rw [if_neg q1]; exact ⟨rfl, rfl, rfl⟩⟩
    show avA _ 214 0 [.ref 81, .int (nI (ad)), .int (nI (lo)), .int (nI (hi))] [] _ _
    refine a_aload_0 rfl rfl ?_
    refine a_geti rfl rfl rfl (fun _ _ _ => rfl) ?_
    refine a_as (y := nI (τ)) w1 ?_
    refine a_iconst (v := (nI 1)) rfl rfl rfl ?_
    refine a_cmpN_eq rfl rfl rfl (by omega) (by omega) (fun c_5 => False.elim (by omega)) (fun _ => ?_)
    refine a_iconst (v := (nI 1)) rfl rfl rfl ?_
    exact a_iret rfl rfl
theorem r_pair {h : Nat → Nat → Int32} {gl : Nat → Nat → Int64} (T : TS b k n i h gl) (ad m1 wd m2 s : Nat) (had : ad + 2 < 2724) (h1 : m1 ≤ 60) (h2 : m2 ≤ 60) (hw : wd < 31) : ∃ v h' gl', avE 4 213 [.ref 81, .int (nI ad), .int (nI m1), .long (lN (wW wd)), .int (nI m2)] (sX L t lt rt rp sw h gl) (some (.int v), sX L t lt rt rp sw h' gl') ∧ RD2 b k n ad s h (prO (cdT b k) (nmT b k) m1 wd m2 i) v h' gl' := by
  obtain ⟨v1, ha, gla, Ca, Ra⟩ := r_fig (L := L) (t := t) (lt := lt) (rt := rt) (rp := rp) (sw := sw) T (ad + 1) 0 m1 (by omega) (by decide) h1
  unfold prO fgO
  by_cases q1 : cdT b k i = 45
  · rw [if_pos q1] at Ra ⊢
    by_cases q2 : nmT b k i < 0 ∨ m1 < nmT b k i
    · rw [if_pos q2] at Ra ⊢
      obtain ⟨rfl, rfl, rfl⟩ := Ra
      refine ⟨nI 2, ha, gla, ?_, FB_refl, rfl, Or.inr rfl, T⟩
      show avA _ 213 0 [.ref 81, .int (nI (ad)), .int (nI (m1)), .long (lN (wW wd)), mvU, .int (nI (m2)), mvU] [] _ _
      refine a_aload_0 rfl rfl ?_
      refine a_iload_1 rfl rfl ?_
      refine a_iconst (v := (nI 1)) rfl rfl rfl ?_
      refine a_iaddN rfl rfl ?_
      refine a_iconst (v := (nI 0)) rfl rfl rfl ?_
      refine a_iload_2 rfl rfl ?_
      refine a_virtI rfl rfl (Ca) (Nat.le_of_ble_eq_true rfl) ⟨rfl, rfl, rfl, rfl⟩ rfl rfl rfl (Nat.le_of_ble_eq_true rfl) rfl rfl ?_
      refine a_istore_6 rfl rfl rfl ?_
      refine a_iload_6 rfl rfl ?_
      refine a_ifN_eq rfl rfl rfl (by omega) (fun c_13 => False.elim (by omega)) (fun _ => ?_)
      refine a_iload_6 rfl rfl ?_
      refine a_goto rfl rfl ?_
      exact a_iret rfl rfl
    · rw [if_neg q2] at Ra ⊢
      dsimp only
      obtain ⟨rfl, T2, F2⟩ := Ra
      have G2 : FB ad h ha := FB_trans (⟨fun o _ c => put_ne c, fun j _ => put_o (by omega), fun q c _ => put_nj (by omega)⟩ : FB ad h (mvPut h 84 (ad + 1) (nI (nmT b k i)))) (F81_FB F2)
      have w1 : ha 84 (ad + 1) = nI (nmT b k i) := (congrFun (F2.1 84 rfl) _).trans put_eq
      obtain ⟨τ, W⟩ := rTk_W T2.2.2.1
      have W' : tW (cdT b k (i + 1)) ha gla τ := W
      have S := r_isWord (L := L) (t := t) (lt := lt) (rt := rt) (rp := rp) (sw := sw) W' wd hw
      by_cases q3 : cdT b k (i + 1) = wd
      · rw [if_pos q3]
        have hn := NT_lt T2.2.1 T2.2.2.2 (by omega)
        obtain ⟨hb, glb, Cb, F3, T3⟩ := r_nx (L := L) (t := t) (lt := lt) (rt := rt) (rp := rp) (sw := sw) T2 hn
        obtain ⟨v4, hc, glc, Cc, Rc'⟩ := r_fig (L := L) (t := t) (lt := lt) (rt := rt) (rp := rp) (sw := sw) T3 (ad + 2) 0 m2 (by omega) (by decide) h2
        have WD : avE 3 215 [.ref 81, .long (lN (wW wd)), .int (nI (ad + 2)), .int (nI m2)] (sX L t lt rt rp sw ha gla) (some (.int v4), sX L t lt rt rp sw hc glc) := by
          show avA _ 215 0 [.ref 81, .long (lN (wW wd)), mvU, .int (nI (ad + 2)), .int (nI (m2))] [] _ _
          refine a_aload_0 rfl rfl ?_
          refine a_lload_1 rfl rfl ?_
          refine a_virtI rfl rfl (S) (Nat.le_of_ble_eq_true rfl) ⟨rfl, rfl, rfl, rfl⟩ rfl rfl rfl (Nat.le_of_ble_eq_true rfl) rfl rfl ?_
          refine a_ifb_ne rfl rfl rfl (fun _ => ?_) (fun c_5 => by first | exact absurd q3 c_5 | exact absurd c_5 q3)
          refine a_aload_0 rfl rfl ?_
          refine a_virt0 rfl rfl (Cb) (Nat.le_of_ble_eq_true rfl) ⟨rfl, rfl, rfl, rfl⟩ rfl rfl rfl (Nat.le_of_ble_eq_true rfl) rfl rfl ?_
          refine a_aload_0 rfl rfl ?_
          refine a_iload_3 rfl rfl ?_
          refine a_iconst (v := (nI 0)) rfl rfl rfl ?_
          refine a_iload_4 rfl rfl ?_
          refine a_virtI rfl rfl (Cc) (Nat.le_of_ble_eq_true rfl) ⟨rfl, rfl, rfl, rfl⟩ rfl rfl rfl (Nat.le_of_ble_eq_true rfl) rfl rfl ?_
          exact a_iret rfl rfl
        refine ⟨v4, hc, glc, ?_, ?_⟩
        · show avA _ 213 0 [.ref 81, .int (nI (ad)), .int (nI (m1)), .long (lN (wW wd)), mvU, .int (nI (m2)), mvU] [] _ _
          refine a_aload_0 rfl rfl ?_
          refine a_iload_1 rfl rfl ?_
          refine a_iconst (v := (nI 1)) rfl rfl rfl ?_
          refine a_iaddN rfl rfl ?_
          refine a_iconst (v := (nI 0)) rfl rfl rfl ?_
          refine a_iload_2 rfl rfl ?_
          refine a_virtI rfl rfl (Ca) (Nat.le_of_ble_eq_true rfl) ⟨rfl, rfl, rfl, rfl⟩ rfl rfl rfl (Nat.le_of_ble_eq_true rfl) rfl rfl ?_
          refine a_istore_6 rfl rfl rfl ?_
          refine a_iload_6 rfl rfl ?_
          refine a_ifN_eq rfl rfl rfl (by omega) (fun _ => ?_) (fun c_13 => False.elim (by omega))
          refine a_aload_0 rfl rfl ?_
          refine a_lload_3 rfl rfl ?_
          refine a_iload_1 rfl rfl ?_
          refine a_iconst (v := (nI 2)) rfl rfl rfl ?_
          refine a_iaddN rfl rfl ?_
          refine a_iload_5 rfl rfl ?_
          refine a_virtI rfl rfl (WD) (Nat.le_of_ble_eq_true rfl) ⟨rfl, rfl, rfl, rfl⟩ rfl rfl rfl (Nat.le_of_ble_eq_true rfl) rfl rfl ?_
          exact a_iret rfl rfl
        · by_cases q4 : cdT b k (i + 1 + 1) = 45
          · rw [if_pos q4] at Rc' ⊢
            by_cases q5 : nmT b k (i + 1 + 1) < 0 ∨ m2 < nmT b k (i + 1 + 1)
            · rw [if_pos q5] at Rc' ⊢
              obtain ⟨rfl, rfl, rfl⟩ := Rc'
              exact ⟨FB_trans G2 (F81_FB F3), rfl, Or.inr rfl, T3⟩
            · rw [if_neg q5] at Rc' ⊢
              obtain ⟨rfl, T4, F4⟩ := Rc'
              have G4 : FB ad hb hc := FB_trans (⟨fun o _ c => put_ne c, fun j _ => put_o (by omega), fun q _ c => put_nj (by omega)⟩ : FB ad hb (mvPut hb 84 (ad + 2) (nI (nmT b k (i + 1 + 1))))) (F81_FB F4)
              refine ⟨FB_trans G2 (FB_trans (F81_FB F3) G4), rfl, T4, fun _ => ?_, fun _ => (congrFun (F4.1 84 rfl) _).trans put_eq⟩
              exact (congrFun (F4.1 84 rfl) _).trans ((put_nj (by omega)).trans ((congrFun (F3.1 84 rfl) _).trans w1))
          · rw [if_neg q4] at Rc' ⊢
            obtain ⟨rfl, rfl, rfl⟩ := Rc'
            exact ⟨FB_trans G2 (F81_FB F3), rfl, Or.inl rfl, T3⟩
      · rw [if_neg q3]
        have WD : avE 3 215 [.ref 81, .long (lN (wW wd)), .int (nI (ad + 2)), .int (nI m2)] (sX L t lt rt rp sw ha gla) (some (.int (nI 1)), sX L t lt rt rp sw ha gla) := by
          show avA _ 215 0 [.ref 81, .long (lN (wW wd)), mvU, .int (nI (ad + 2)), .int (nI (m2))] [] _ _
          refine a_aload_0 rfl rfl ?_
          refine a_lload_1 rfl rfl ?_
          refine a_virtI rfl rfl (S) (Nat.le_of_ble_eq_true rfl) ⟨rfl, rfl, rfl, rfl⟩ rfl rfl rfl (Nat.le_of_ble_eq_true rfl) rfl rfl ?_
          refine a_ifb_ne rfl rfl rfl (fun c_5 => by first | exact absurd c_5 q3 | exact absurd q3 c_5) (fun _ => ?_)
          refine a_iconst (v := (nI 1)) rfl rfl rfl ?_
          exact a_iret rfl rfl
        refine ⟨nI 1, ha, gla, ?_, G2, rfl, Or.inl rfl, T2⟩
        show avA _ 213 0 [.ref 81, .int (nI (ad)), .int (nI (m1)), .long (lN (wW wd)), mvU, .int (nI (m2)), mvU] [] _ _
        refine a_aload_0 rfl rfl ?_
        refine a_iload_1 rfl rfl ?_
        refine a_iconst (v := (nI 1)) rfl rfl rfl ?_
        refine a_iaddN rfl rfl ?_
        refine a_iconst (v := (nI 0)) rfl rfl rfl ?_
        refine a_iload_2 rfl rfl ?_
        refine a_virtI rfl rfl (Ca) (Nat.le_of_ble_eq_true rfl) ⟨rfl, rfl, rfl, rfl⟩ rfl rfl rfl (Nat.le_of_ble_eq_true rfl) rfl rfl ?_
        refine a_istore_6 rfl rfl rfl ?_
        refine a_iload_6 rfl rfl ?_
        refine a_ifN_eq rfl rfl rfl (by omega) (fun _ => ?_) (fun c_13 => False.elim (by omega))
        refine a_aload_0 rfl rfl ?_
        refine a_lload_3 rfl rfl ?_
        refine a_iload_1 rfl rfl ?_
        refine a_iconst (v := (nI 2)) rfl rfl rfl ?_
        refine a_iaddN rfl rfl ?_
        refine a_iload_5 rfl rfl ?_
        refine a_virtI rfl rfl (WD) (Nat.le_of_ble_eq_true rfl) ⟨rfl, rfl, rfl, rfl⟩ rfl rfl rfl (Nat.le_of_ble_eq_true rfl) rfl rfl ?_
        exact a_iret rfl rfl
  · rw [if_neg q1] at Ra ⊢
    obtain ⟨rfl, rfl, rfl⟩ := Ra
    refine ⟨nI 1, ha, gla, ?_, FB_refl, rfl, Or.inl rfl, T⟩
    show avA _ 213 0 [.ref 81, .int (nI (ad)), .int (nI (m1)), .long (lN (wW wd)), mvU, .int (nI (m2)), mvU] [] _ _
    refine a_aload_0 rfl rfl ?_
    refine a_iload_1 rfl rfl ?_
    refine a_iconst (v := (nI 1)) rfl rfl rfl ?_
    refine a_iaddN rfl rfl ?_
    refine a_iconst (v := (nI 0)) rfl rfl rfl ?_
    refine a_iload_2 rfl rfl ?_
    refine a_virtI rfl rfl (Ca) (Nat.le_of_ble_eq_true rfl) ⟨rfl, rfl, rfl, rfl⟩ rfl rfl rfl (Nat.le_of_ble_eq_true rfl) rfl rfl ?_
    refine a_istore_6 rfl rfl rfl ?_
    refine a_iload_6 rfl rfl ?_
    refine a_ifN_eq rfl rfl rfl (by omega) (fun c_13 => False.elim (by omega)) (fun _ => ?_)
    refine a_iload_6 rfl rfl ?_
    refine a_goto rfl rfl ?_
    exact a_iret rfl rfl
theorem r_deed {h : Nat → Nat → Int32} {gl : Nat → Nat → Int64} (T : TS b k n i h gl) (ad s : Nat) (had : ad + 2 < 2724) (hs : 3 ≤ s ∧ s < 10) : ∃ v h' gl', avE 9 212 [.ref 81, .int (nI s), .int (nI ad)] (sX L t lt rt rp sw h gl) (some (.int v), sX L t lt rt rp sw h' gl') ∧ RD2 b k n ad s h (dbO (cdT b k) (nmT b k) s i) v h' gl' := by
  have h7 : s = 3 ∨ s = 4 ∨ s = 5 ∨ s = 8 ∨ s = 6 ∨ s = 9 ∨ s = 7 := by omega
  rcases h7 with rfl | rfl | rfl | rfl | rfl | rfl | rfl
  · obtain ⟨v, h', gl', C, R⟩ := r_pair (L := L) (t := t) (lt := lt) (rt := rt) (rp := rp) (sw := sw) T ad 29 4 3 3 had (by decide) (by decide) (by decide)
    refine ⟨v, h', gl', ?_, R⟩
    show avA _ 212 0 [.ref 81, .int (nI 3), .int (nI (ad))] [] _ _
    refine a_iload_1 rfl rfl ?_
    refine a_tabIn rfl (by decide) rfl rfl ?_
    refine a_aload_0 rfl rfl ?_
    refine a_iload_2 rfl rfl ?_
    refine a_bipush (v := (nI 29)) rfl rfl rfl ?_
    refine a_bipush (v := (nI 107)) rfl rfl rfl ?_
    refine a_bipush (v := (nI 105)) rfl rfl rfl ?_
    refine a_bipush (v := (nI 110)) rfl rfl rfl ?_
    refine a_bipush (v := (nI 100)) rfl rfl rfl ?_
    refine a_statL rfl rfl (r_w4 107 105 110 100 (by decide) (by decide) (by decide) (by decide)) (Nat.le_of_ble_eq_true rfl) ⟨rfl, rfl, rfl⟩ rfl rfl rfl (Nat.le_of_ble_eq_true rfl) rfl ?_
    refine a_asL (y := lN (wW 4)) rfl ?_
    refine a_iconst (v := (nI 3)) rfl rfl rfl ?_
    refine a_virtI rfl rfl (C) (Nat.le_of_ble_eq_true rfl) ⟨rfl, rfl, rfl, rfl⟩ rfl rfl rfl (Nat.le_of_ble_eq_true rfl) rfl rfl ?_
    exact a_iret rfl rfl
  · obtain ⟨v, h', gl', C, R⟩ := r_pair (L := L) (t := t) (lt := lt) (rt := rt) (rp := rp) (sw := sw) T ad 9 19 29 4 had (by decide) (by decide) (by decide)
    refine ⟨v, h', gl', ?_, R⟩
    show avA _ 212 0 [.ref 81, .int (nI 4), .int (nI (ad))] [] _ _
    refine a_iload_1 rfl rfl ?_
    refine a_tabIn rfl (by decide) rfl rfl ?_
    refine a_aload_0 rfl rfl ?_
    refine a_iload_2 rfl rfl ?_
    refine a_bipush (v := (nI 9)) rfl rfl rfl ?_
    refine a_bipush (v := (nI 111)) rfl rfl rfl ?_
    refine a_bipush (v := (nI 102)) rfl rfl rfl ?_
    refine a_statL rfl rfl (r_w2 111 102 (by decide) (by decide)) (Nat.le_of_ble_eq_true rfl) ⟨rfl, rfl, rfl⟩ rfl rfl rfl (Nat.le_of_ble_eq_true rfl) rfl ?_
    refine a_asL (y := lN (wW 19)) rfl ?_
    refine a_bipush (v := (nI 29)) rfl rfl rfl ?_
    refine a_virtI rfl rfl (C) (Nat.le_of_ble_eq_true rfl) ⟨rfl, rfl, rfl, rfl⟩ rfl rfl rfl (Nat.le_of_ble_eq_true rfl) rfl rfl ?_
    exact a_iret rfl rfl
  · obtain ⟨v, h', gl', C, R⟩ := r_pair (L := L) (t := t) (lt := lt) (rt := rt) (rp := rp) (sw := sw) T ad 29 9 9 5 had (by decide) (by decide) (by decide)
    refine ⟨v, h', gl', ?_, R⟩
    show avA _ 212 0 [.ref 81, .int (nI 5), .int (nI (ad))] [] _ _
    refine a_iload_1 rfl rfl ?_
    refine a_tabIn rfl (by decide) rfl rfl ?_
    refine a_aload_0 rfl rfl ?_
    refine a_iload_2 rfl rfl ?_
    refine a_bipush (v := (nI 29)) rfl rfl rfl ?_
    refine a_bipush (v := (nI 109)) rfl rfl rfl ?_
    refine a_bipush (v := (nI 111)) rfl rfl rfl ?_
    refine a_bipush (v := (nI 111)) rfl rfl rfl ?_
    refine a_bipush (v := (nI 100)) rfl rfl rfl ?_
    refine a_statL rfl rfl (r_w4 109 111 111 100 (by decide) (by decide) (by decide) (by decide)) (Nat.le_of_ble_eq_true rfl) ⟨rfl, rfl, rfl⟩ rfl rfl rfl (Nat.le_of_ble_eq_true rfl) rfl ?_
    refine a_asL (y := lN (wW 9)) rfl ?_
    refine a_bipush (v := (nI 9)) rfl rfl rfl ?_
    refine a_virtI rfl rfl (C) (Nat.le_of_ble_eq_true rfl) ⟨rfl, rfl, rfl, rfl⟩ rfl rfl rfl (Nat.le_of_ble_eq_true rfl) rfl rfl ?_
    exact a_iret rfl rfl
  · obtain ⟨v, h', gl', C, R⟩ := r_pair (L := L) (t := t) (lt := lt) (rt := rt) (rp := rp) (sw := sw) T ad 4 20 29 8 had (by decide) (by decide) (by decide)
    refine ⟨v, h', gl', ?_, R⟩
    show avA _ 212 0 [.ref 81, .int (nI 8), .int (nI (ad))] [] _ _
    refine a_iload_1 rfl rfl ?_
    refine a_tabIn rfl (by decide) rfl rfl ?_
    refine a_aload_0 rfl rfl ?_
    refine a_iload_2 rfl rfl ?_
    refine a_iconst (v := (nI 4)) rfl rfl rfl ?_
    refine a_bipush (v := (nI 116)) rfl rfl rfl ?_
    refine a_bipush (v := (nI 111)) rfl rfl rfl ?_
    refine a_statL rfl rfl (r_w2 116 111 (by decide) (by decide)) (Nat.le_of_ble_eq_true rfl) ⟨rfl, rfl, rfl⟩ rfl rfl rfl (Nat.le_of_ble_eq_true rfl) rfl ?_
    refine a_asL (y := lN (wW 20)) rfl ?_
    refine a_bipush (v := (nI 29)) rfl rfl rfl ?_
    refine a_virtI rfl rfl (C) (Nat.le_of_ble_eq_true rfl) ⟨rfl, rfl, rfl, rfl⟩ rfl rfl rfl (Nat.le_of_ble_eq_true rfl) rfl rfl ?_
    exact a_iret rfl rfl
  · obtain ⟨v, h', gl', C, R⟩ := r_fig (L := L) (t := t) (lt := lt) (rt := rt) (rp := rp) (sw := sw) T (ad + 1) 0 29 (by omega) (by decide) (by decide)
    refine ⟨v, h', gl', ?_, ?_⟩
    · show avA _ 212 0 [.ref 81, .int (nI 6), .int (nI (ad))] [] _ _
      refine a_iload_1 rfl rfl ?_
      refine a_tabIn rfl (by decide) rfl rfl ?_
      refine a_aload_0 rfl rfl ?_
      refine a_iload_2 rfl rfl ?_
      refine a_iconst (v := (nI 1)) rfl rfl rfl ?_
      refine a_iaddN rfl rfl ?_
      refine a_iconst (v := (nI 0)) rfl rfl rfl ?_
      refine a_bipush (v := (nI 29)) rfl rfl rfl ?_
      refine a_virtI rfl rfl (C) (Nat.le_of_ble_eq_true rfl) ⟨rfl, rfl, rfl, rfl⟩ rfl rfl rfl (Nat.le_of_ble_eq_true rfl) rfl rfl ?_
      exact a_iret rfl rfl
    · show RD2 b k n ad 6 h (fgO (cdT b k) (nmT b k) 0 29 i (fun a j1 => .inl (a, 0, j1))) v h' gl'
      unfold fgO
      by_cases q1 : cdT b k i = 45
      · rw [if_pos q1] at R ⊢
        by_cases q2 : nmT b k i < 0 ∨ 29 < nmT b k i
        · rw [if_pos q2] at R ⊢
          obtain ⟨rfl, rfl, rfl⟩ := R
          exact ⟨FB_refl, rfl, Or.inr rfl, T⟩
        · rw [if_neg q2] at R ⊢
          obtain ⟨rfl, T2, F2⟩ := R
          exact ⟨FB_trans (⟨fun o _ c => put_ne c, fun j _ => put_o (by omega), fun q c _ => put_nj (by omega)⟩ : FB ad h (mvPut h 84 (ad + 1) (nI (nmT b k i)))) (F81_FB F2), rfl, T2, fun _ => (congrFun (F2.1 84 rfl) _).trans put_eq, fun z => absurd z (by decide)⟩
      · rw [if_neg q1] at R ⊢
        obtain ⟨rfl, rfl, rfl⟩ := R
        exact ⟨FB_refl, rfl, Or.inl rfl, T⟩
  · obtain ⟨v, h', gl', C, R⟩ := r_fig (L := L) (t := t) (lt := lt) (rt := rt) (rp := rp) (sw := sw) T (ad + 1) 1 60 (by omega) (by decide) (by decide)
    refine ⟨v, h', gl', ?_, ?_⟩
    · show avA _ 212 0 [.ref 81, .int (nI 9), .int (nI (ad))] [] _ _
      refine a_iload_1 rfl rfl ?_
      refine a_tabIn rfl (by decide) rfl rfl ?_
      refine a_aload_0 rfl rfl ?_
      refine a_iload_2 rfl rfl ?_
      refine a_iconst (v := (nI 1)) rfl rfl rfl ?_
      refine a_iaddN rfl rfl ?_
      refine a_iconst (v := (nI 1)) rfl rfl rfl ?_
      refine a_bipush (v := (nI 60)) rfl rfl rfl ?_
      refine a_virtI rfl rfl (C) (Nat.le_of_ble_eq_true rfl) ⟨rfl, rfl, rfl, rfl⟩ rfl rfl rfl (Nat.le_of_ble_eq_true rfl) rfl rfl ?_
      exact a_iret rfl rfl
    · show RD2 b k n ad 9 h (fgO (cdT b k) (nmT b k) 1 60 i (fun a j1 => .inl (a, 0, j1))) v h' gl'
      unfold fgO
      by_cases q1 : cdT b k i = 45
      · rw [if_pos q1] at R ⊢
        by_cases q2 : nmT b k i < 1 ∨ 60 < nmT b k i
        · rw [if_pos q2] at R ⊢
          obtain ⟨rfl, rfl, rfl⟩ := R
          exact ⟨FB_refl, rfl, Or.inr rfl, T⟩
        · rw [if_neg q2] at R ⊢
          obtain ⟨rfl, T2, F2⟩ := R
          exact ⟨FB_trans (⟨fun o _ c => put_ne c, fun j _ => put_o (by omega), fun q c _ => put_nj (by omega)⟩ : FB ad h (mvPut h 84 (ad + 1) (nI (nmT b k i)))) (F81_FB F2), rfl, T2, fun _ => (congrFun (F2.1 84 rfl) _).trans put_eq, fun z => absurd z (by decide)⟩
      · rw [if_neg q1] at R ⊢
        obtain ⟨rfl, rfl, rfl⟩ := R
        exact ⟨FB_refl, rfl, Or.inl rfl, T⟩
  · refine ⟨nI 0, h, gl, ?_, FB_refl, rfl, T, fun z => absurd z (by decide), fun z => absurd z (by decide)⟩
    show avA _ 212 0 [.ref 81, .int (nI 7), .int (nI (ad))] [] _ _
    refine a_iload_1 rfl rfl ?_
    refine a_tabIn rfl (by decide) rfl rfl ?_
    refine a_iconst (v := (nI 0)) rfl rfl rfl ?_
    exact a_iret rfl rfl
end DR
