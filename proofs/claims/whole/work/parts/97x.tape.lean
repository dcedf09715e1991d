/-! THE CONSTRUCTORS, the rest: the words of the tape; the class; the reference -/
theorem b_latin {σ : mvSt} (H : TB σ) : avE 0 12 [.ref 2] σ (some (.int (bI True)), σ) := by
  obtain ⟨me, h, gl, gr⟩ := σ
  show avA _ 12 0 [.ref 2] [] _ _
  refine a_gets0 (v := nI 1) rfl rfl rfl ?_
  refine a_ifN_eq rfl rfl rfl (by omega) (fun c_3 => absurd c_3 (by decide)) (fun _ => ?_)
  refine a_aload_0 rfl rfl ?_
  refine a_geti rfl rfl (congrArg Prod.fst H.1) (fun _ _ _ => rfl) ?_
  refine a_as (y := nI (0)) H.2.2.1 ?_
  refine a_ifN_ne rfl rfl rfl (by omega) (fun c_10 => ?_) (fun c_10 => ?_)
  · refine a_iconst (v := (nI 0)) rfl rfl rfl ?_
    refine av_to (a_zret rfl rfl (Or.inl rfl)) (bz0 ?_)
    trivial
  · refine a_iconst (v := (nI 1)) rfl rfl rfl ?_
    refine a_goto rfl rfl ?_
    refine av_to (a_zret rfl rfl (Or.inr rfl)) (bz1 ?_)
    trivial
theorem b_coder {σ : mvSt} (H : TB σ) : avE 0 10 [.ref 2] σ (some (.int (nI 0)), σ) := by
  obtain ⟨me, h, gl, gr⟩ := σ
  show avA _ 10 0 [.ref 2] [] _ _
  refine a_gets0 (v := nI 1) rfl rfl rfl ?_
  refine a_ifN_eq rfl rfl rfl (by omega) (fun c_3 => absurd c_3 (by decide)) (fun _ => ?_)
  refine a_aload_0 rfl rfl ?_
  refine a_geti rfl rfl (congrArg Prod.fst H.1) (fun _ _ _ => rfl) ?_
  refine a_as (y := nI (0)) H.2.2.1 ?_
  refine a_goto rfl rfl ?_
  exact a_bret rfl rfl rfl
theorem b_slen {σ : mvSt} (H : TB σ) : avE 1 9 [.ref 2] σ (some (.int (nI 151)), σ) := by
  obtain ⟨me, h, gl, gr⟩ := σ
  show avA _ 9 0 [.ref 2] [] _ _
  refine a_aload_0 rfl rfl ?_
  refine a_getr rfl rfl (congrArg Prod.fst H.1) (fun _ _ _ => rfl) H.2.2.2.1 ?_
  refine a_alen rfl rfl H.2.1 rfl ?_
  refine a_aload_0 rfl rfl ?_
  refine a_virtI rfl rfl (b_coder H) (Nat.le_of_ble_eq_true rfl) ⟨rfl, rfl, rfl, rfl⟩ rfl rfl rfl (Nat.le_of_ble_eq_true rfl) (congrArg Prod.fst H.1) rfl ?_
  refine a_ishr rfl rfl ?_
  refine av_to (a_iret rfl rfl) ?_
  rfl
theorem b_lchar {σ : mvSt} (H : TB σ) (i : Nat) (hi : i < 151) : avE 2 13 [.ref 3, .int (nI i)] σ (some (.int (nI (WB i))), σ) := by
  obtain ⟨me, h, gl, gr⟩ := σ
  have e : h 3 i = msWords.getD i 0 := congrFun H.2.2.2.2 i
  show avA _ 13 0 [.ref 3, .int (nI (i))] [] _ _
  refine a_iload_1 rfl rfl ?_
  refine a_aload_0 rfl rfl ?_
  refine a_alen rfl rfl H.2.1 rfl ?_
  refine a_stat0 rfl rfl (e_sCheck i 151 hi (by omega)) (Nat.le_of_ble_eq_true rfl) ⟨rfl, rfl, rfl⟩ rfl rfl rfl (Nat.le_of_ble_eq_true rfl) rfl ?_
  refine a_aload_0 rfl rfl ?_
  refine a_iload_1 rfl rfl ?_
  refine a_bald rfl rfl (Or.inr H.2.1) rfl (by omega) (by decide) ?_
  refine a_as (y := msWords.getD i 0) e ?_
  refine a_sipush (v := (nI 255)) rfl rfl rfl ?_
  refine a_iand rfl rfl ?_
  refine a_i2c rfl rfl ?_
  refine a_as (y := nI (WB i)) (wb_ch i hi).1 ?_
  exact a_cret rfl rfl (wb_ch i hi).2
theorem b_charAt {σ : mvSt} (H : TB σ) (i : Nat) (hi : i < 151) : avE 3 11 [.ref 2, .int (nI i)] σ (some (.int (nI (WB i))), σ) := by
  obtain ⟨me, h, gl, gr⟩ := σ
  show avA _ 11 0 [.ref 2, .int (nI (i))] [] _ _
  refine a_aload_0 rfl rfl ?_
  refine a_virtI rfl rfl (b_latin H) (Nat.le_of_ble_eq_true rfl) ⟨rfl, rfl, rfl, rfl⟩ rfl rfl rfl (Nat.le_of_ble_eq_true rfl) (congrArg Prod.fst H.1) rfl ?_
  refine a_ifb_eq rfl rfl rfl (fun c_4 => by first | exact absurd c_4 (not_not_intro trivial) | exact absurd (not_not_intro trivial) c_4) (fun _ => ?_)
  refine a_aload_0 rfl rfl ?_
  refine a_getr rfl rfl (congrArg Prod.fst H.1) (fun _ _ _ => rfl) H.2.2.2.1 ?_
  refine a_iload_1 rfl rfl ?_
  refine a_statI rfl rfl (b_lchar H i hi) (Nat.le_of_ble_eq_true rfl) ⟨rfl, rfl, rfl⟩ rfl rfl rfl (Nat.le_of_ble_eq_true rfl) rfl ?_
  exact a_cret rfl rfl (wb_ch i hi).2
def wct : Nat → Nat
  | 0 => 0
  | i + 1 => if WB i = 32 then wct i + 1 else wct i
def wFt (F : Nat → Int32) : Nat → Nat → Int32
  | 0 => F
  | i + 1 => if WB i = 32 then va_up (wFt F i) (wct i + 1) (nI (i + 1)) else wFt F i
theorem wct_lt : ∀ i, i < 151 → wct i < 31 ∧ WB i < 256 := by decide +kernel
def wdS (σ : mvSt) : mvSt := (σ.1, va_up σ.2.1 71 (wFt (σ.2.1 71) 151), σ.2.2)
theorem l_words {me : Nat × Nat × (Nat → Nat × Nat)} {h : Nat → Nat → Int32} {gl : Nat → Nat → Int64} {gr : Nat → Nat → Option Nat} (F : Nat → Int32) (H : TB (me, h, gl, gr)) (h1 : (me.2.2 68).1 = 9) (h2 : gr 68 6 = some 71) (h3 : me.2.2 71 = (20, 32)) (m : Nat) : ∀ i, i + m = 151 → avA 4 8 54 [.ref 68, .int (nI (wct i)), .int (nI i)] [] (me, va_up h 71 (wFt F i), gl, gr) (none, (me, va_up h 71 (wFt F 151), gl, gr)) := by
  have H' : ∀ X, TB (me, va_up h 71 X, gl, gr) := fun X => H
  induction m with
  | zero =>
    intro i hi
    obtain rfl : i = 151 := by omega
    have w := H' (wFt F 151)
    refine a_iload_2 rfl rfl ?_
    refine a_ldcS rfl rfl ?_
    refine a_virtI rfl rfl (b_slen w) (Nat.le_of_ble_eq_true rfl) ⟨rfl, rfl, rfl, rfl⟩ rfl rfl rfl (Nat.le_of_ble_eq_true rfl) (congrArg Prod.fst H.1) rfl ?_
    refine a_cmpN_ge rfl rfl rfl (by omega) (by omega) (fun _ => ?_) (fun c_60 => False.elim (by omega))
    exact a_vret rfl rfl
  | succ m ih =>
    intro i hi
    have w := H' (wFt F i)
    have wl := wct_lt i (by omega)
    have I := ih (i + 1) (by omega)
    by_cases c : WB i = 32
    · have e1 : wct (i + 1) = wct i + 1 := if_pos c
      have e2 : wFt F (i + 1) = va_up (wFt F i) (wct i + 1) (nI (i + 1)) := if_pos c
      rw [e1, e2] at I
      refine a_iload_2 rfl rfl ?_
      refine a_ldcS rfl rfl ?_
      refine a_virtI rfl rfl (b_slen w) (Nat.le_of_ble_eq_true rfl) ⟨rfl, rfl, rfl, rfl⟩ rfl rfl rfl (Nat.le_of_ble_eq_true rfl) (congrArg Prod.fst H.1) rfl ?_
      refine a_cmpN_ge rfl rfl rfl (by omega) (by omega) (fun c_60 => False.elim (by omega)) (fun _ => ?_)
      refine a_iload_1 rfl rfl ?_
      refine a_bipush (v := (nI 31)) rfl rfl rfl ?_
      refine a_cmpN_ge rfl rfl rfl (by omega) (by omega) (fun c_66 => False.elim (by omega)) (fun _ => ?_)
      refine a_ldcS rfl rfl ?_
      refine a_iload_2 rfl rfl ?_
      refine a_virtI rfl rfl (b_charAt w i (by omega)) (Nat.le_of_ble_eq_true rfl) ⟨rfl, rfl, rfl, rfl⟩ rfl rfl rfl (Nat.le_of_ble_eq_true rfl) (congrArg Prod.fst H.1) rfl ?_
      refine a_bipush (v := (nI 32)) rfl rfl rfl ?_
      refine a_cmpN_ne rfl rfl rfl (by omega) (by omega) (fun c_77 => False.elim (by omega)) (fun _ => ?_)
      refine a_iinc_1 rfl rfl (nI_inc _ _) rfl ?_
      refine a_aload_0 rfl rfl ?_
      refine a_getr rfl rfl h1 (fun _ _ _ => rfl) h2 ?_
      refine a_iload_1 rfl rfl ?_
      refine a_iload_2 rfl rfl ?_
      refine a_iconst (v := (nI 1)) rfl rfl rfl ?_
      refine a_iaddN rfl rfl ?_
      refine a_iast rfl rfl h3 rfl (show wct i + 1 < 32 by omega) (by decide) ?_
      rw [up_put]
      refine a_iinc_2 rfl rfl (nI_inc _ _) rfl ?_
      refine a_goto rfl rfl ?_
      exact I
    · have e1 : wct (i + 1) = wct i := if_neg c
      have e2 : wFt F (i + 1) = wFt F i := if_neg c
      rw [e1, e2] at I
      refine a_iload_2 rfl rfl ?_
      refine a_ldcS rfl rfl ?_
      refine a_virtI rfl rfl (b_slen w) (Nat.le_of_ble_eq_true rfl) ⟨rfl, rfl, rfl, rfl⟩ rfl rfl rfl (Nat.le_of_ble_eq_true rfl) (congrArg Prod.fst H.1) rfl ?_
      refine a_cmpN_ge rfl rfl rfl (by omega) (by omega) (fun c_60 => False.elim (by omega)) (fun _ => ?_)
      refine a_iload_1 rfl rfl ?_
      refine a_bipush (v := (nI 31)) rfl rfl rfl ?_
      refine a_cmpN_ge rfl rfl rfl (by omega) (by omega) (fun c_66 => False.elim (by omega)) (fun _ => ?_)
      refine a_ldcS rfl rfl ?_
      refine a_iload_2 rfl rfl ?_
      refine a_virtI rfl rfl (b_charAt w i (by omega)) (Nat.le_of_ble_eq_true rfl) ⟨rfl, rfl, rfl, rfl⟩ rfl rfl rfl (Nat.le_of_ble_eq_true rfl) (congrArg Prod.fst H.1) rfl ?_
      refine a_bipush (v := (nI 32)) rfl rfl rfl ?_
      refine a_cmpN_ne rfl rfl rfl (by omega) (by omega) (fun _ => ?_) (fun c_77 => False.elim (by omega))
      refine a_iinc_2 rfl rfl (nI_inc _ _) rfl ?_
      refine a_goto rfl rfl ?_
      exact I
theorem l_words0 {σ : mvSt} (H : TB σ) (h1 : (σ.1.2.2 68).1 = 9) (h2 : σ.2.2.2 68 6 = some 71) (h3 : σ.1.2.2 71 = (20, 32)) : avA 4 8 54 [.ref 68, .int (nI 0), .int (nI 0)] [] σ (none, wdS σ) := by
  obtain ⟨me, h, gl, gr⟩ := σ
  have I := l_words (h := h) (gl := gl) (h 71) H h1 h2 h3 151 0 rfl
  rw [show wFt (h 71) 0 = h 71 from rfl, up_id] at I
  exact I
def iTap (σ : mvSt) : mvSt := (wdS (pR (mkS (pI (pI (pI (pR (mkS (pI (pR (mkS σ 20 300) (68) 0 (some (69))) (68) 1 (nI 0)) 20 301) (68) 2 (some (69 + 1))) (68) 3 (nI 0)) (68) 4 (nI 0)) (68) 5 (nI 0)) 20 32) (68) 6 (some (69 + 2))))
theorem e_iTap {σ : mvSt} (G : Gr σ (69) 68 9) (H : TB σ) : avE 4 8 [.ref 68] σ (none, iTap σ) := by
  obtain ⟨⟨m, s, sh⟩, h, gl, gr⟩ := σ
  obtain rfl : m = 69 := G.1
  show avA _ 8 0 [.ref 68, mvU, mvU] [] _ _
  refine a_aload_0 rfl rfl ?_
  refine a_obj rfl rfl G.2.2.2.2 (Nat.le_of_ble_eq_true rfl) ?_
  refine a_aload_0 rfl rfl ?_
  refine a_sipush (v := (nI 300)) rfl rfl rfl ?_
  refine c_newI (z := 300) rfl rfl rfl (by decide) G.1 ?_
  replace H := tb_mk (t := 20) (z := 300) H (gr_7 G)
  replace G := gr_mk (t := 20) (z := 300) G
  refine c_putrS rfl rfl G.2.1 rfl ?_
  replace H := tb_pR (p := 68) (k := 0) (v := (some (69))) H (by decide)
  replace G := gr_pR (k := 0) (v := (some (69))) G G.2.2.1
  refine a_aload_0 rfl rfl ?_
  refine a_iconst (v := (nI 0)) rfl rfl rfl ?_
  refine c_puti rfl rfl G.2.1 rfl ?_
  replace H := tb_pI (p := 68) (k := 1) (v := (nI 0)) H (by decide)
  replace G := gr_pI (p := 68) (k := 1) (v := (nI 0)) G
  refine a_aload_0 rfl rfl ?_
  refine a_sipush (v := (nI 301)) rfl rfl rfl ?_
  refine c_newI (z := 301) rfl rfl rfl (by decide) G.1 ?_
  replace H := tb_mk (t := 20) (z := 301) H (gr_7 G)
  replace G := gr_mk (t := 20) (z := 301) G
  refine c_putrS rfl rfl G.2.1 rfl ?_
  replace H := tb_pR (p := 68) (k := 2) (v := (some (69 + 1))) H (by decide)
  replace G := gr_pR (k := 2) (v := (some (69 + 1))) G G.2.2.1
  refine a_aload_0 rfl rfl ?_
  refine a_iconst (v := (nI 0)) rfl rfl rfl ?_
  refine c_puti rfl rfl G.2.1 rfl ?_
  replace H := tb_pI (p := 68) (k := 3) (v := (nI 0)) H (by decide)
  replace G := gr_pI (p := 68) (k := 3) (v := (nI 0)) G
  refine a_aload_0 rfl rfl ?_
  refine a_iconst (v := (nI 0)) rfl rfl rfl ?_
  refine c_puti rfl rfl G.2.1 rfl ?_
  replace H := tb_pI (p := 68) (k := 4) (v := (nI 0)) H (by decide)
  replace G := gr_pI (p := 68) (k := 4) (v := (nI 0)) G
  refine a_aload_0 rfl rfl ?_
  refine a_iconst (v := (nI 0)) rfl rfl rfl ?_
  refine c_puti rfl rfl G.2.1 rfl ?_
  replace H := tb_pI (p := 68) (k := 5) (v := (nI 0)) H (by decide)
  replace G := gr_pI (p := 68) (k := 5) (v := (nI 0)) G
  refine a_aload_0 rfl rfl ?_
  refine a_bipush (v := (nI 32)) rfl rfl rfl ?_
  refine c_newI (z := 32) rfl rfl rfl (by decide) G.1 ?_
  replace H := tb_mk (t := 20) (z := 32) H (gr_7 G)
  replace G := gr_mk (t := 20) (z := 32) G
  refine c_putrS rfl rfl G.2.1 rfl ?_
  replace H := tb_pR (p := 68) (k := 6) (v := (some (69 + 2))) H (by decide)
  replace G := gr_pR (k := 6) (v := (some (69 + 2))) G G.2.2.1
  refine a_iconst (v := nI 0) rfl rfl rfl ?_
  refine a_istore_1 rfl rfl rfl ?_
  refine a_iconst (v := nI 0) rfl rfl rfl ?_
  refine a_istore_2 rfl rfl rfl ?_
  exact l_words0 H G.2.1 rfl rfl
theorem g_iTap {σ : mvSt} {p c : Nat} (G : Gr σ (69) p c) (ho : 68 < 69) : Gr (iTap σ) (69 + 3) p c := by
  replace G := gr_mk (t := 20) (z := 300) G
  replace G := gr_pR (k := 0) (v := (some (69))) G (show 68 < _ by omega)
  replace G := gr_pI (p := 68) (k := 1) (v := (nI 0)) G
  replace G := gr_mk (t := 20) (z := 301) G
  replace G := gr_pR (k := 2) (v := (some (69 + 1))) G (show 68 < _ by omega)
  replace G := gr_pI (p := 68) (k := 3) (v := (nI 0)) G
  replace G := gr_pI (p := 68) (k := 4) (v := (nI 0)) G
  replace G := gr_pI (p := 68) (k := 5) (v := (nI 0)) G
  replace G := gr_mk (t := 20) (z := 32) G
  replace G := gr_pR (k := 6) (v := (some (69 + 2))) G (show 68 < _ by omega)
  exact G
theorem t_iTap {σ : mvSt} {p c : Nat} (G : Gr σ (69) p c) (H : TB σ) (ho : 68 < 69) (h7 : 7 ≤ 68) : TB (iTap σ) := by
  replace H := tb_mk (t := 20) (z := 300) H (gr_7 G)
  replace G := gr_mk (t := 20) (z := 300) G
  replace H := tb_pR (p := 68) (k := 0) (v := (some (69))) H h7
  replace G := gr_pR (k := 0) (v := (some (69))) G (show 68 < _ by omega)
  replace H := tb_pI (p := 68) (k := 1) (v := (nI 0)) H h7
  replace G := gr_pI (p := 68) (k := 1) (v := (nI 0)) G
  replace H := tb_mk (t := 20) (z := 301) H (gr_7 G)
  replace G := gr_mk (t := 20) (z := 301) G
  replace H := tb_pR (p := 68) (k := 2) (v := (some (69 + 1))) H h7
  replace G := gr_pR (k := 2) (v := (some (69 + 1))) G (show 68 < _ by omega)
  replace H := tb_pI (p := 68) (k := 3) (v := (nI 0)) H h7
  replace G := gr_pI (p := 68) (k := 3) (v := (nI 0)) G
  replace H := tb_pI (p := 68) (k := 4) (v := (nI 0)) H h7
  replace G := gr_pI (p := 68) (k := 4) (v := (nI 0)) G
  replace H := tb_pI (p := 68) (k := 5) (v := (nI 0)) H h7
  replace G := gr_pI (p := 68) (k := 5) (v := (nI 0)) G
  replace H := tb_mk (t := 20) (z := 32) H (gr_7 G)
  replace G := gr_mk (t := 20) (z := 32) G
  replace H := tb_pR (p := 68) (k := 6) (v := (some (69 + 2))) H h7
  replace G := gr_pR (k := 6) (v := (some (69 + 2))) G (show 68 < _ by omega)
  exact tb_row H (by decide)
theorem f_iTap {σ : mvSt} {p c i : Nat} (G : Gr σ (69) p c) (hi : i < 69) (hn : i ≠ 68) : SameAt i σ (iTap σ) := by
  have S : SameAt i σ σ := sa_refl
  have ho : 68 ≤ 68 := Nat.le_refl _
  replace S := sa_tr S (sa_mk (t := 20) (z := 300) G (by omega))
  replace G := gr_mk (t := 20) (z := 300) G
  replace S := sa_tr S (sa_pR (p := 68) (k := 0) (v := (some (69))) hn)
  replace G := gr_pR (p := 68) (k := 0) (v := (some (69))) G (by omega)
  replace S := sa_tr S (sa_pI (p := 68) (k := 1) (v := (nI 0)) hn)
  replace G := gr_pI (p := 68) (k := 1) (v := (nI 0)) G
  replace S := sa_tr S (sa_mk (t := 20) (z := 301) G (by omega))
  replace G := gr_mk (t := 20) (z := 301) G
  replace S := sa_tr S (sa_pR (p := 68) (k := 2) (v := (some (69 + 1))) hn)
  replace G := gr_pR (p := 68) (k := 2) (v := (some (69 + 1))) G (by omega)
  replace S := sa_tr S (sa_pI (p := 68) (k := 3) (v := (nI 0)) hn)
  replace G := gr_pI (p := 68) (k := 3) (v := (nI 0)) G
  replace S := sa_tr S (sa_pI (p := 68) (k := 4) (v := (nI 0)) hn)
  replace G := gr_pI (p := 68) (k := 4) (v := (nI 0)) G
  replace S := sa_tr S (sa_pI (p := 68) (k := 5) (v := (nI 0)) hn)
  replace G := gr_pI (p := 68) (k := 5) (v := (nI 0)) G
  replace S := sa_tr S (sa_mk (t := 20) (z := 32) G (by omega))
  replace G := gr_mk (t := 20) (z := 32) G
  replace S := sa_tr S (sa_pR (p := 68) (k := 6) (v := (some (69 + 2))) hn)
  replace G := gr_pR (p := 68) (k := 6) (v := (some (69 + 2))) G (by omega)
  exact sa_tr S (sa_row (by omega))
def iMoo (σ : mvSt) : mvSt := (pR (mkS (pR (iLea (8 + 70) (8 + 71) (mkS (pR (iSea (8 + 65) (8 + 66) (mkS (pR (iRdr (8 + 64) (8 + 65) (mkS (pR (iTap (mkS (pR (mkS (pR (iMom (8 + 54) (8 + 55) (mkS (pR (iHol40 (mkS (pR (pR (pR (iLws (mkS σ 1 10)) (7) 0 (some (8))) (7) 1 (some (11))) (7) 2 (some (9))) 0 13)) (7) 3 (some (8 + 32))) 3 11)) (7) 4 (some (8 + 54))) 23 4) (7) 5 (some (8 + 59))) 9 7)) (7) 6 (some (8 + 60))) 6 5)) (7) 7 (some (8 + 64))) 8 6)) (7) 8 (some (8 + 65))) 2 3)) (7) 9 (some (8 + 70))) 20 30) (7) 10 (some (8 + 72)))
theorem e_iMoo {σ : mvSt} (G : Gr σ (8) 7 11) (H : TB σ) : avE 5 1 [.ref 7] σ (none, iMoo σ) := by
  obtain ⟨⟨m, s, sh⟩, h, gl, gr⟩ := σ
  obtain rfl : m = 8 := G.1
  show avA _ 1 0 [.ref 7] [] _ _
  refine a_aload_0 rfl rfl ?_
  refine a_obj rfl rfl G.2.2.2.2 (Nat.le_of_ble_eq_true rfl) ?_
  refine a_aload_0 rfl rfl ?_
  refine c_new (z := 10) rfl rfl rfl G.1 ?_
  have Gc := gr_nw (t := 1) (z := 10) G
  replace H := tb_mk (t := 1) (z := 10) H (gr_7 G)
  replace G := gr_mk (t := 1) (z := 10) G
  refine a_dup rfl rfl rfl ?_
  refine a_spec0 rfl rfl (e_iLws Gc) (Nat.le_of_ble_eq_true rfl) ⟨rfl, rfl, rfl, rfl⟩ rfl rfl rfl (Nat.le_of_ble_eq_true rfl) Gc.2.1 rfl ?_
  replace H := t_iLws G H Gc.2.2.1 Gc.2.2.2.2
  replace G := g_iLws G Gc.2.2.1
  refine c_putrS rfl rfl G.2.1 rfl ?_
  replace H := tb_pR (p := 7) (k := 0) (v := (some (8))) H (by decide)
  replace G := gr_pR (k := 0) (v := (some (8))) G G.2.2.1
  refine a_aload_0 rfl rfl ?_
  refine a_aload_0 rfl rfl ?_
  refine c_getr (x := 8) rfl rfl G.2.1 (fun _ _ _ => rfl) rfl ?_
  refine c_getr (x := 11) rfl rfl rfl (fun _ _ _ => rfl) rfl ?_
  refine c_putrS rfl rfl G.2.1 rfl ?_
  replace H := tb_pR (p := 7) (k := 1) (v := (some (11))) H (by decide)
  replace G := gr_pR (k := 1) (v := (some (11))) G G.2.2.1
  refine a_aload_0 rfl rfl ?_
  refine a_aload_0 rfl rfl ?_
  refine c_getr (x := 8) rfl rfl G.2.1 (fun _ _ _ => rfl) rfl ?_
  refine c_getr (x := 9) rfl rfl rfl (fun _ _ _ => rfl) rfl ?_
  refine c_putrS rfl rfl G.2.1 rfl ?_
  replace H := tb_pR (p := 7) (k := 2) (v := (some (9))) H (by decide)
  replace G := gr_pR (k := 2) (v := (some (9))) G G.2.2.1
  refine a_aload_0 rfl rfl ?_
  refine c_new (z := 13) rfl rfl rfl G.1 ?_
  have Gc := gr_nw (t := 0) (z := 13) G
  replace H := tb_mk (t := 0) (z := 13) H (gr_7 G)
  replace G := gr_mk (t := 0) (z := 13) G
  refine a_dup rfl rfl rfl ?_
  refine a_spec0 rfl rfl (e_iHol40 Gc) (Nat.le_of_ble_eq_true rfl) ⟨rfl, rfl, rfl, rfl⟩ rfl rfl rfl (Nat.le_of_ble_eq_true rfl) Gc.2.1 rfl ?_
  replace H := t_iHol40 G H Gc.2.2.1 Gc.2.2.2.2
  replace G := g_iHol40 G Gc.2.2.1
  refine c_putrS rfl rfl G.2.1 rfl ?_
  replace H := tb_pR (p := 7) (k := 3) (v := (some (8 + 32))) H (by decide)
  replace G := gr_pR (k := 3) (v := (some (8 + 32))) G G.2.2.1
  refine a_aload_0 rfl rfl ?_
  refine c_new (z := 11) rfl rfl rfl G.1 ?_
  have Gc := gr_nw (t := 3) (z := 11) G
  replace H := tb_mk (t := 3) (z := 11) H (gr_7 G)
  replace G := gr_mk (t := 3) (z := 11) G
  refine a_dup rfl rfl rfl ?_
  refine a_spec0 rfl rfl (e_iMom Gc) (Nat.le_of_ble_eq_true rfl) ⟨rfl, rfl, rfl, rfl⟩ rfl rfl rfl (Nat.le_of_ble_eq_true rfl) Gc.2.1 rfl ?_
  replace H := t_iMom (o := 8 + 54) (m := 8 + 55) G H Gc.2.2.1 Gc.2.2.2.2
  replace G := g_iMom (o := 8 + 54) (m := 8 + 55) G Gc.2.2.1
  refine c_putrS rfl rfl G.2.1 rfl ?_
  replace H := tb_pR (p := 7) (k := 4) (v := (some (8 + 54))) H (by decide)
  replace G := gr_pR (k := 4) (v := (some (8 + 54))) G G.2.2.1
  refine a_aload_0 rfl rfl ?_
  refine a_iconst (v := (nI 4)) rfl rfl rfl ?_
  refine c_newA (z := 4) rfl rfl rfl (by decide) G.1 ?_
  replace H := tb_mk (t := 23) (z := 4) H (gr_7 G)
  replace G := gr_mk (t := 23) (z := 4) G
  refine c_putrS rfl rfl G.2.1 rfl ?_
  replace H := tb_pR (p := 7) (k := 5) (v := (some (8 + 59))) H (by decide)
  replace G := gr_pR (k := 5) (v := (some (8 + 59))) G G.2.2.1
  refine a_aload_0 rfl rfl ?_
  refine c_new (z := 7) rfl rfl rfl G.1 ?_
  have Gc := gr_nw (t := 9) (z := 7) G
  replace H := tb_mk (t := 9) (z := 7) H (gr_7 G)
  replace G := gr_mk (t := 9) (z := 7) G
  refine a_dup rfl rfl rfl ?_
  refine a_spec0 rfl rfl (e_iTap Gc H) (Nat.le_of_ble_eq_true rfl) ⟨rfl, rfl, rfl, rfl⟩ rfl rfl rfl (Nat.le_of_ble_eq_true rfl) Gc.2.1 rfl ?_
  replace H := t_iTap G H Gc.2.2.1 Gc.2.2.2.2
  replace G := g_iTap G Gc.2.2.1
  refine c_putrS rfl rfl G.2.1 rfl ?_
  replace H := tb_pR (p := 7) (k := 6) (v := (some (8 + 60))) H (by decide)
  replace G := gr_pR (k := 6) (v := (some (8 + 60))) G G.2.2.1
  refine a_aload_0 rfl rfl ?_
  refine c_new (z := 5) rfl rfl rfl G.1 ?_
  have Gc := gr_nw (t := 6) (z := 5) G
  replace H := tb_mk (t := 6) (z := 5) H (gr_7 G)
  replace G := gr_mk (t := 6) (z := 5) G
  refine a_dup rfl rfl rfl ?_
  refine a_spec0 rfl rfl (e_iRdr Gc) (Nat.le_of_ble_eq_true rfl) ⟨rfl, rfl, rfl, rfl⟩ rfl rfl rfl (Nat.le_of_ble_eq_true rfl) Gc.2.1 rfl ?_
  replace H := t_iRdr (o := 8 + 64) (m := 8 + 65) G H Gc.2.2.1 Gc.2.2.2.2
  replace G := g_iRdr (o := 8 + 64) (m := 8 + 65) G Gc.2.2.1
  refine c_putrS rfl rfl G.2.1 rfl ?_
  replace H := tb_pR (p := 7) (k := 7) (v := (some (8 + 64))) H (by decide)
  replace G := gr_pR (k := 7) (v := (some (8 + 64))) G G.2.2.1
  refine a_aload_0 rfl rfl ?_
  refine c_new (z := 6) rfl rfl rfl G.1 ?_
  have Gc := gr_nw (t := 8) (z := 6) G
  replace H := tb_mk (t := 8) (z := 6) H (gr_7 G)
  replace G := gr_mk (t := 8) (z := 6) G
  refine a_dup rfl rfl rfl ?_
  refine a_spec0 rfl rfl (e_iSea Gc) (Nat.le_of_ble_eq_true rfl) ⟨rfl, rfl, rfl, rfl⟩ rfl rfl rfl (Nat.le_of_ble_eq_true rfl) Gc.2.1 rfl ?_
  replace H := t_iSea (o := 8 + 65) (m := 8 + 66) G H Gc.2.2.1 Gc.2.2.2.2
  replace G := g_iSea (o := 8 + 65) (m := 8 + 66) G Gc.2.2.1
  refine c_putrS rfl rfl G.2.1 rfl ?_
  replace H := tb_pR (p := 7) (k := 8) (v := (some (8 + 65))) H (by decide)
  replace G := gr_pR (k := 8) (v := (some (8 + 65))) G G.2.2.1
  refine a_aload_0 rfl rfl ?_
  refine c_new (z := 3) rfl rfl rfl G.1 ?_
  have Gc := gr_nw (t := 2) (z := 3) G
  replace H := tb_mk (t := 2) (z := 3) H (gr_7 G)
  replace G := gr_mk (t := 2) (z := 3) G
  refine a_dup rfl rfl rfl ?_
  refine a_spec0 rfl rfl (e_iLea Gc) (Nat.le_of_ble_eq_true rfl) ⟨rfl, rfl, rfl, rfl⟩ rfl rfl rfl (Nat.le_of_ble_eq_true rfl) Gc.2.1 rfl ?_
  replace H := t_iLea (o := 8 + 70) (m := 8 + 71) G H Gc.2.2.1 Gc.2.2.2.2
  replace G := g_iLea (o := 8 + 70) (m := 8 + 71) G Gc.2.2.1
  refine c_putrS rfl rfl G.2.1 rfl ?_
  replace H := tb_pR (p := 7) (k := 9) (v := (some (8 + 70))) H (by decide)
  replace G := gr_pR (k := 9) (v := (some (8 + 70))) G G.2.2.1
  refine a_aload_0 rfl rfl ?_
  refine a_bipush (v := (nI 30)) rfl rfl rfl ?_
  refine c_newI (z := 30) rfl rfl rfl (by decide) G.1 ?_
  replace H := tb_mk (t := 20) (z := 30) H (gr_7 G)
  replace G := gr_mk (t := 20) (z := 30) G
  refine c_putrS rfl rfl G.2.1 rfl ?_
  replace H := tb_pR (p := 7) (k := 10) (v := (some (8 + 72))) H (by decide)
  replace G := gr_pR (k := 10) (v := (some (8 + 72))) G G.2.2.1
  exact a_vret rfl rfl
theorem g_iMoo {σ : mvSt} {p c : Nat} (G : Gr σ (8) p c) (ho : 7 < 8) : Gr (iMoo σ) (8 + 73) p c := by
  replace G := gr_mk (t := 1) (z := 10) G
  replace G := g_iLws G (by omega)
  replace G := gr_pR (k := 0) (v := (some (8))) G (show 7 < _ by omega)
  replace G := gr_pR (k := 1) (v := (some (11))) G (show 7 < _ by omega)
  replace G := gr_pR (k := 2) (v := (some (9))) G (show 7 < _ by omega)
  replace G := gr_mk (t := 0) (z := 13) G
  replace G := g_iHol40 G (by omega)
  replace G := gr_pR (k := 3) (v := (some (8 + 32))) G (show 7 < _ by omega)
  replace G := gr_mk (t := 3) (z := 11) G
  replace G := g_iMom (o := 8 + 54) (m := 8 + 55) G (by omega)
  replace G := gr_pR (k := 4) (v := (some (8 + 54))) G (show 7 < _ by omega)
  replace G := gr_mk (t := 23) (z := 4) G
  replace G := gr_pR (k := 5) (v := (some (8 + 59))) G (show 7 < _ by omega)
  replace G := gr_mk (t := 9) (z := 7) G
  replace G := g_iTap G (by omega)
  replace G := gr_pR (k := 6) (v := (some (8 + 60))) G (show 7 < _ by omega)
  replace G := gr_mk (t := 6) (z := 5) G
  replace G := g_iRdr (o := 8 + 64) (m := 8 + 65) G (by omega)
  replace G := gr_pR (k := 7) (v := (some (8 + 64))) G (show 7 < _ by omega)
  replace G := gr_mk (t := 8) (z := 6) G
  replace G := g_iSea (o := 8 + 65) (m := 8 + 66) G (by omega)
  replace G := gr_pR (k := 8) (v := (some (8 + 65))) G (show 7 < _ by omega)
  replace G := gr_mk (t := 2) (z := 3) G
  replace G := g_iLea (o := 8 + 70) (m := 8 + 71) G (by omega)
  replace G := gr_pR (k := 9) (v := (some (8 + 70))) G (show 7 < _ by omega)
  replace G := gr_mk (t := 20) (z := 30) G
  replace G := gr_pR (k := 10) (v := (some (8 + 72))) G (show 7 < _ by omega)
  exact G
theorem t_iMoo {σ : mvSt} {p c : Nat} (G : Gr σ (8) p c) (H : TB σ) (ho : 7 < 8) (h7 : 7 ≤ 7) : TB (iMoo σ) := by
  replace H := tb_mk (t := 1) (z := 10) H (gr_7 G)
  replace G := gr_mk (t := 1) (z := 10) G
  replace H := t_iLws G H (by omega) (by omega)
  replace G := g_iLws G (by omega)
  replace H := tb_pR (p := 7) (k := 0) (v := (some (8))) H h7
  replace G := gr_pR (k := 0) (v := (some (8))) G (show 7 < _ by omega)
  replace H := tb_pR (p := 7) (k := 1) (v := (some (11))) H h7
  replace G := gr_pR (k := 1) (v := (some (11))) G (show 7 < _ by omega)
  replace H := tb_pR (p := 7) (k := 2) (v := (some (9))) H h7
  replace G := gr_pR (k := 2) (v := (some (9))) G (show 7 < _ by omega)
  replace H := tb_mk (t := 0) (z := 13) H (gr_7 G)
  replace G := gr_mk (t := 0) (z := 13) G
  replace H := t_iHol40 G H (by omega) (by omega)
  replace G := g_iHol40 G (by omega)
  replace H := tb_pR (p := 7) (k := 3) (v := (some (8 + 32))) H h7
  replace G := gr_pR (k := 3) (v := (some (8 + 32))) G (show 7 < _ by omega)
  replace H := tb_mk (t := 3) (z := 11) H (gr_7 G)
  replace G := gr_mk (t := 3) (z := 11) G
  replace H := t_iMom (o := 8 + 54) (m := 8 + 55) G H (by omega) (by omega)
  replace G := g_iMom (o := 8 + 54) (m := 8 + 55) G (by omega)
  replace H := tb_pR (p := 7) (k := 4) (v := (some (8 + 54))) H h7
  replace G := gr_pR (k := 4) (v := (some (8 + 54))) G (show 7 < _ by omega)
  replace H := tb_mk (t := 23) (z := 4) H (gr_7 G)
  replace G := gr_mk (t := 23) (z := 4) G
  replace H := tb_pR (p := 7) (k := 5) (v := (some (8 + 59))) H h7
  replace G := gr_pR (k := 5) (v := (some (8 + 59))) G (show 7 < _ by omega)
  replace H := tb_mk (t := 9) (z := 7) H (gr_7 G)
  replace G := gr_mk (t := 9) (z := 7) G
  replace H := t_iTap G H (by omega) (by omega)
  replace G := g_iTap G (by omega)
  replace H := tb_pR (p := 7) (k := 6) (v := (some (8 + 60))) H h7
  replace G := gr_pR (k := 6) (v := (some (8 + 60))) G (show 7 < _ by omega)
  replace H := tb_mk (t := 6) (z := 5) H (gr_7 G)
  replace G := gr_mk (t := 6) (z := 5) G
  replace H := t_iRdr (o := 8 + 64) (m := 8 + 65) G H (by omega) (by omega)
  replace G := g_iRdr (o := 8 + 64) (m := 8 + 65) G (by omega)
  replace H := tb_pR (p := 7) (k := 7) (v := (some (8 + 64))) H h7
  replace G := gr_pR (k := 7) (v := (some (8 + 64))) G (show 7 < _ by omega)
  replace H := tb_mk (t := 8) (z := 6) H (gr_7 G)
  replace G := gr_mk (t := 8) (z := 6) G
  replace H := t_iSea (o := 8 + 65) (m := 8 + 66) G H (by omega) (by omega)
  replace G := g_iSea (o := 8 + 65) (m := 8 + 66) G (by omega)
  replace H := tb_pR (p := 7) (k := 8) (v := (some (8 + 65))) H h7
  replace G := gr_pR (k := 8) (v := (some (8 + 65))) G (show 7 < _ by omega)
  replace H := tb_mk (t := 2) (z := 3) H (gr_7 G)
  replace G := gr_mk (t := 2) (z := 3) G
  replace H := t_iLea (o := 8 + 70) (m := 8 + 71) G H (by omega) (by omega)
  replace G := g_iLea (o := 8 + 70) (m := 8 + 71) G (by omega)
  replace H := tb_pR (p := 7) (k := 9) (v := (some (8 + 70))) H h7
  replace G := gr_pR (k := 9) (v := (some (8 + 70))) G (show 7 < _ by omega)
  replace H := tb_mk (t := 20) (z := 30) H (gr_7 G)
  replace G := gr_mk (t := 20) (z := 30) G
  replace H := tb_pR (p := 7) (k := 10) (v := (some (8 + 72))) H h7
  replace G := gr_pR (k := 10) (v := (some (8 + 72))) G (show 7 < _ by omega)
  exact H
theorem f_iMoo {σ : mvSt} {p c i : Nat} (G : Gr σ (8) p c) (hi : i < 8) (hn : i ≠ 7) : SameAt i σ (iMoo σ) := by
  have S : SameAt i σ σ := sa_refl
  have ho : 7 ≤ 7 := Nat.le_refl _
  replace S := sa_tr S (sa_mk (t := 1) (z := 10) G (by omega))
  replace G := gr_mk (t := 1) (z := 10) G
  replace S := sa_tr S (f_iLws G (by omega) (by omega))
  replace G := g_iLws G (by omega)
  replace S := sa_tr S (sa_pR (p := 7) (k := 0) (v := (some (8))) hn)
  replace G := gr_pR (p := 7) (k := 0) (v := (some (8))) G (by omega)
  replace S := sa_tr S (sa_pR (p := 7) (k := 1) (v := (some (11))) hn)
  replace G := gr_pR (p := 7) (k := 1) (v := (some (11))) G (by omega)
  replace S := sa_tr S (sa_pR (p := 7) (k := 2) (v := (some (9))) hn)
  replace G := gr_pR (p := 7) (k := 2) (v := (some (9))) G (by omega)
  replace S := sa_tr S (sa_mk (t := 0) (z := 13) G (by omega))
  replace G := gr_mk (t := 0) (z := 13) G
  replace S := sa_tr S (f_iHol40 G (by omega) (by omega))
  replace G := g_iHol40 G (by omega)
  replace S := sa_tr S (sa_pR (p := 7) (k := 3) (v := (some (8 + 32))) hn)
  replace G := gr_pR (p := 7) (k := 3) (v := (some (8 + 32))) G (by omega)
  replace S := sa_tr S (sa_mk (t := 3) (z := 11) G (by omega))
  replace G := gr_mk (t := 3) (z := 11) G
  replace S := sa_tr S (f_iMom (o := 8 + 54) (m := 8 + 55) (by omega) G (by omega) (by omega))
  replace G := g_iMom (o := 8 + 54) (m := 8 + 55) G (by omega)
  replace S := sa_tr S (sa_pR (p := 7) (k := 4) (v := (some (8 + 54))) hn)
  replace G := gr_pR (p := 7) (k := 4) (v := (some (8 + 54))) G (by omega)
  replace S := sa_tr S (sa_mk (t := 23) (z := 4) G (by omega))
  replace G := gr_mk (t := 23) (z := 4) G
  replace S := sa_tr S (sa_pR (p := 7) (k := 5) (v := (some (8 + 59))) hn)
  replace G := gr_pR (p := 7) (k := 5) (v := (some (8 + 59))) G (by omega)
  replace S := sa_tr S (sa_mk (t := 9) (z := 7) G (by omega))
  replace G := gr_mk (t := 9) (z := 7) G
  replace S := sa_tr S (f_iTap G (by omega) (by omega))
  replace G := g_iTap G (by omega)
  replace S := sa_tr S (sa_pR (p := 7) (k := 6) (v := (some (8 + 60))) hn)
  replace G := gr_pR (p := 7) (k := 6) (v := (some (8 + 60))) G (by omega)
  replace S := sa_tr S (sa_mk (t := 6) (z := 5) G (by omega))
  replace G := gr_mk (t := 6) (z := 5) G
  replace S := sa_tr S (f_iRdr (o := 8 + 64) (m := 8 + 65) (by omega) G (by omega) (by omega))
  replace G := g_iRdr (o := 8 + 64) (m := 8 + 65) G (by omega)
  replace S := sa_tr S (sa_pR (p := 7) (k := 7) (v := (some (8 + 64))) hn)
  replace G := gr_pR (p := 7) (k := 7) (v := (some (8 + 64))) G (by omega)
  replace S := sa_tr S (sa_mk (t := 8) (z := 6) G (by omega))
  replace G := gr_mk (t := 8) (z := 6) G
  replace S := sa_tr S (f_iSea (o := 8 + 65) (m := 8 + 66) (by omega) G (by omega) (by omega))
  replace G := g_iSea (o := 8 + 65) (m := 8 + 66) G (by omega)
  replace S := sa_tr S (sa_pR (p := 7) (k := 8) (v := (some (8 + 65))) hn)
  replace G := gr_pR (p := 7) (k := 8) (v := (some (8 + 65))) G (by omega)
  replace S := sa_tr S (sa_mk (t := 2) (z := 3) G (by omega))
  replace G := gr_mk (t := 2) (z := 3) G
  replace S := sa_tr S (f_iLea (o := 8 + 70) (m := 8 + 71) (by omega) G (by omega) (by omega))
  replace G := g_iLea (o := 8 + 70) (m := 8 + 71) G (by omega)
  replace S := sa_tr S (sa_pR (p := 7) (k := 9) (v := (some (8 + 70))) hn)
  replace G := gr_pR (p := 7) (k := 9) (v := (some (8 + 70))) G (by omega)
  replace S := sa_tr S (sa_mk (t := 20) (z := 30) G (by omega))
  replace G := gr_mk (t := 20) (z := 30) G
  replace S := sa_tr S (sa_pR (p := 7) (k := 10) (v := (some (8 + 72))) hn)
  replace G := gr_pR (p := 7) (k := 10) (v := (some (8 + 72))) G (by omega)
  exact S
def iRef (σ : mvSt) : mvSt := (pR (mkS (pR (mkS (pR (mkS (pR (mkS (pR (mkS (pR (mkS (pI (pR (mkS (pR (mkS (pR (mkS (pR (mkS (pR (mkS (pR (mkS (pI (pI (pR (mkS (pR (mkS (pR (mkS (pR (mkS σ 20 1726) (81) 0 (some (82))) 20 1726) (81) 1 (some (82 + 1))) 20 2724) (81) 2 (some (82 + 2))) 20 300) (81) 3 (some (82 + 3))) (81) 5 (-1)) (81) 6 (-1)) 20 160) (81) 15 (some (82 + 4))) 20 11) (81) 20 (some (82 + 5))) 20 30) (81) 21 (some (82 + 6))) 21 330) (81) 22 (some (82 + 7))) 22 330) (81) 23 (some (82 + 8))) 20 30) (81) 24 (some (82 + 9))) (81) 25 (nI 1)) 20 38) (81) 27 (some (82 + 10))) 20 30) (81) 28 (some (82 + 11))) 20 64) (81) 29 (some (82 + 12))) 20 64) (81) 30 (some (82 + 13))) 20 64) (81) 31 (some (82 + 14))) 20 64) (81) 32 (some (82 + 15)))
theorem e_iRef {σ : mvSt} {r : Option Value × mvSt} (G : Gr σ (82) 81 12)  (A : avA 1 181 154 [.ref 81, mvU] [] (iRef σ) r) : avE 1 181 [.ref 81] σ r := by
  obtain ⟨⟨m, s, sh⟩, h, gl, gr⟩ := σ
  obtain rfl : m = 82 := G.1
  show avA _ 181 0 [.ref 81, mvU] [] _ _
  refine a_aload_0 rfl rfl ?_
  refine a_obj rfl rfl G.2.2.2.2 (Nat.le_of_ble_eq_true rfl) ?_
  refine a_aload_0 rfl rfl ?_
  refine a_sipush (v := (nI 1726)) rfl rfl rfl ?_
  refine c_newI (z := 1726) rfl rfl rfl (by decide) G.1 ?_
  replace G := gr_mk (t := 20) (z := 1726) G
  refine c_putrS rfl rfl G.2.1 rfl ?_
  replace G := gr_pR (k := 0) (v := (some (82))) G G.2.2.1
  refine a_aload_0 rfl rfl ?_
  refine a_sipush (v := (nI 1726)) rfl rfl rfl ?_
  refine c_newI (z := 1726) rfl rfl rfl (by decide) G.1 ?_
  replace G := gr_mk (t := 20) (z := 1726) G
  refine c_putrS rfl rfl G.2.1 rfl ?_
  replace G := gr_pR (k := 1) (v := (some (82 + 1))) G G.2.2.1
  refine a_aload_0 rfl rfl ?_
  refine a_sipush (v := (nI 2724)) rfl rfl rfl ?_
  refine c_newI (z := 2724) rfl rfl rfl (by decide) G.1 ?_
  replace G := gr_mk (t := 20) (z := 2724) G
  refine c_putrS rfl rfl G.2.1 rfl ?_
  replace G := gr_pR (k := 2) (v := (some (82 + 2))) G G.2.2.1
  refine a_aload_0 rfl rfl ?_
  refine a_sipush (v := (nI 300)) rfl rfl rfl ?_
  refine c_newI (z := 300) rfl rfl rfl (by decide) G.1 ?_
  replace G := gr_mk (t := 20) (z := 300) G
  refine c_putrS rfl rfl G.2.1 rfl ?_
  replace G := gr_pR (k := 3) (v := (some (82 + 3))) G G.2.2.1
  refine a_aload_0 rfl rfl ?_
  refine a_iconst (v := (-1)) rfl rfl rfl ?_
  refine c_puti rfl rfl G.2.1 rfl ?_
  replace G := gr_pI (p := 81) (k := 5) (v := (-1)) G
  refine a_aload_0 rfl rfl ?_
  refine a_iconst (v := (-1)) rfl rfl rfl ?_
  refine c_puti rfl rfl G.2.1 rfl ?_
  replace G := gr_pI (p := 81) (k := 6) (v := (-1)) G
  refine a_aload_0 rfl rfl ?_
  refine a_sipush (v := (nI 160)) rfl rfl rfl ?_
  refine c_newI (z := 160) rfl rfl rfl (by decide) G.1 ?_
  replace G := gr_mk (t := 20) (z := 160) G
  refine c_putrS rfl rfl G.2.1 rfl ?_
  replace G := gr_pR (k := 15) (v := (some (82 + 4))) G G.2.2.1
  refine a_aload_0 rfl rfl ?_
  refine a_bipush (v := (nI 11)) rfl rfl rfl ?_
  refine c_newI (z := 11) rfl rfl rfl (by decide) G.1 ?_
  replace G := gr_mk (t := 20) (z := 11) G
  refine c_putrS rfl rfl G.2.1 rfl ?_
  replace G := gr_pR (k := 20) (v := (some (82 + 5))) G G.2.2.1
  refine a_aload_0 rfl rfl ?_
  refine a_bipush (v := (nI 30)) rfl rfl rfl ?_
  refine c_newI (z := 30) rfl rfl rfl (by decide) G.1 ?_
  replace G := gr_mk (t := 20) (z := 30) G
  refine c_putrS rfl rfl G.2.1 rfl ?_
  replace G := gr_pR (k := 21) (v := (some (82 + 6))) G G.2.2.1
  refine a_aload_0 rfl rfl ?_
  refine a_sipush (v := (nI 330)) rfl rfl rfl ?_
  refine c_newL (z := 330) rfl rfl rfl (by decide) G.1 ?_
  replace G := gr_mk (t := 21) (z := 330) G
  refine c_putrS rfl rfl G.2.1 rfl ?_
  replace G := gr_pR (k := 22) (v := (some (82 + 7))) G G.2.2.1
  refine a_aload_0 rfl rfl ?_
  refine a_sipush (v := (nI 330)) rfl rfl rfl ?_
  refine c_newZ (z := 330) rfl rfl rfl (by decide) G.1 ?_
  replace G := gr_mk (t := 22) (z := 330) G
  refine c_putrS rfl rfl G.2.1 rfl ?_
  replace G := gr_pR (k := 23) (v := (some (82 + 8))) G G.2.2.1
  refine a_aload_0 rfl rfl ?_
  refine a_bipush (v := (nI 30)) rfl rfl rfl ?_
  refine c_newI (z := 30) rfl rfl rfl (by decide) G.1 ?_
  replace G := gr_mk (t := 20) (z := 30) G
  refine c_putrS rfl rfl G.2.1 rfl ?_
  replace G := gr_pR (k := 24) (v := (some (82 + 9))) G G.2.2.1
  refine a_aload_0 rfl rfl ?_
  refine a_iconst (v := (nI 1)) rfl rfl rfl ?_
  refine c_putz rfl rfl G.2.1 rfl (Or.inr rfl) ?_
  replace G := gr_pI (p := 81) (k := 25) (v := (nI 1)) G
  refine a_aload_0 rfl rfl ?_
  refine a_bipush (v := (nI 38)) rfl rfl rfl ?_
  refine c_newI (z := 38) rfl rfl rfl (by decide) G.1 ?_
  replace G := gr_mk (t := 20) (z := 38) G
  refine c_putrS rfl rfl G.2.1 rfl ?_
  replace G := gr_pR (k := 27) (v := (some (82 + 10))) G G.2.2.1
  refine a_aload_0 rfl rfl ?_
  refine a_bipush (v := (nI 30)) rfl rfl rfl ?_
  refine c_newI (z := 30) rfl rfl rfl (by decide) G.1 ?_
  replace G := gr_mk (t := 20) (z := 30) G
  refine c_putrS rfl rfl G.2.1 rfl ?_
  replace G := gr_pR (k := 28) (v := (some (82 + 11))) G G.2.2.1
  refine a_aload_0 rfl rfl ?_
  refine a_bipush (v := (nI 64)) rfl rfl rfl ?_
  refine c_newI (z := 64) rfl rfl rfl (by decide) G.1 ?_
  replace G := gr_mk (t := 20) (z := 64) G
  refine c_putrS rfl rfl G.2.1 rfl ?_
  replace G := gr_pR (k := 29) (v := (some (82 + 12))) G G.2.2.1
  refine a_aload_0 rfl rfl ?_
  refine a_bipush (v := (nI 64)) rfl rfl rfl ?_
  refine c_newI (z := 64) rfl rfl rfl (by decide) G.1 ?_
  replace G := gr_mk (t := 20) (z := 64) G
  refine c_putrS rfl rfl G.2.1 rfl ?_
  replace G := gr_pR (k := 30) (v := (some (82 + 13))) G G.2.2.1
  refine a_aload_0 rfl rfl ?_
  refine a_bipush (v := (nI 64)) rfl rfl rfl ?_
  refine c_newI (z := 64) rfl rfl rfl (by decide) G.1 ?_
  replace G := gr_mk (t := 20) (z := 64) G
  refine c_putrS rfl rfl G.2.1 rfl ?_
  replace G := gr_pR (k := 31) (v := (some (82 + 14))) G G.2.2.1
  refine a_aload_0 rfl rfl ?_
  refine a_bipush (v := (nI 64)) rfl rfl rfl ?_
  refine c_newI (z := 64) rfl rfl rfl (by decide) G.1 ?_
  replace G := gr_mk (t := 20) (z := 64) G
  refine c_putrS rfl rfl G.2.1 rfl ?_
  replace G := gr_pR (k := 32) (v := (some (82 + 15))) G G.2.2.1
  exact A
theorem g_iRef {σ : mvSt} {p c : Nat} (G : Gr σ (82) p c) (ho : 81 < 82) : Gr (iRef σ) (82 + 16) p c := by
  replace G := gr_mk (t := 20) (z := 1726) G
  replace G := gr_pR (k := 0) (v := (some (82))) G (show 81 < _ by omega)
  replace G := gr_mk (t := 20) (z := 1726) G
  replace G := gr_pR (k := 1) (v := (some (82 + 1))) G (show 81 < _ by omega)
  replace G := gr_mk (t := 20) (z := 2724) G
  replace G := gr_pR (k := 2) (v := (some (82 + 2))) G (show 81 < _ by omega)
  replace G := gr_mk (t := 20) (z := 300) G
  replace G := gr_pR (k := 3) (v := (some (82 + 3))) G (show 81 < _ by omega)
  replace G := gr_pI (p := 81) (k := 5) (v := (-1)) G
  replace G := gr_pI (p := 81) (k := 6) (v := (-1)) G
  replace G := gr_mk (t := 20) (z := 160) G
  replace G := gr_pR (k := 15) (v := (some (82 + 4))) G (show 81 < _ by omega)
  replace G := gr_mk (t := 20) (z := 11) G
  replace G := gr_pR (k := 20) (v := (some (82 + 5))) G (show 81 < _ by omega)
  replace G := gr_mk (t := 20) (z := 30) G
  replace G := gr_pR (k := 21) (v := (some (82 + 6))) G (show 81 < _ by omega)
  replace G := gr_mk (t := 21) (z := 330) G
  replace G := gr_pR (k := 22) (v := (some (82 + 7))) G (show 81 < _ by omega)
  replace G := gr_mk (t := 22) (z := 330) G
  replace G := gr_pR (k := 23) (v := (some (82 + 8))) G (show 81 < _ by omega)
  replace G := gr_mk (t := 20) (z := 30) G
  replace G := gr_pR (k := 24) (v := (some (82 + 9))) G (show 81 < _ by omega)
  replace G := gr_pI (p := 81) (k := 25) (v := (nI 1)) G
  replace G := gr_mk (t := 20) (z := 38) G
  replace G := gr_pR (k := 27) (v := (some (82 + 10))) G (show 81 < _ by omega)
  replace G := gr_mk (t := 20) (z := 30) G
  replace G := gr_pR (k := 28) (v := (some (82 + 11))) G (show 81 < _ by omega)
  replace G := gr_mk (t := 20) (z := 64) G
  replace G := gr_pR (k := 29) (v := (some (82 + 12))) G (show 81 < _ by omega)
  replace G := gr_mk (t := 20) (z := 64) G
  replace G := gr_pR (k := 30) (v := (some (82 + 13))) G (show 81 < _ by omega)
  replace G := gr_mk (t := 20) (z := 64) G
  replace G := gr_pR (k := 31) (v := (some (82 + 14))) G (show 81 < _ by omega)
  replace G := gr_mk (t := 20) (z := 64) G
  replace G := gr_pR (k := 32) (v := (some (82 + 15))) G (show 81 < _ by omega)
  exact G
theorem t_iRef {σ : mvSt} {p c : Nat} (G : Gr σ (82) p c) (H : TB σ) (ho : 81 < 82) (h7 : 7 ≤ 81) : TB (iRef σ) := by
  replace H := tb_mk (t := 20) (z := 1726) H (gr_7 G)
  replace G := gr_mk (t := 20) (z := 1726) G
  replace H := tb_pR (p := 81) (k := 0) (v := (some (82))) H h7
  replace G := gr_pR (k := 0) (v := (some (82))) G (show 81 < _ by omega)
  replace H := tb_mk (t := 20) (z := 1726) H (gr_7 G)
  replace G := gr_mk (t := 20) (z := 1726) G
  replace H := tb_pR (p := 81) (k := 1) (v := (some (82 + 1))) H h7
  replace G := gr_pR (k := 1) (v := (some (82 + 1))) G (show 81 < _ by omega)
  replace H := tb_mk (t := 20) (z := 2724) H (gr_7 G)
  replace G := gr_mk (t := 20) (z := 2724) G
  replace H := tb_pR (p := 81) (k := 2) (v := (some (82 + 2))) H h7
  replace G := gr_pR (k := 2) (v := (some (82 + 2))) G (show 81 < _ by omega)
  replace H := tb_mk (t := 20) (z := 300) H (gr_7 G)
  replace G := gr_mk (t := 20) (z := 300) G
  replace H := tb_pR (p := 81) (k := 3) (v := (some (82 + 3))) H h7
  replace G := gr_pR (k := 3) (v := (some (82 + 3))) G (show 81 < _ by omega)
  replace H := tb_pI (p := 81) (k := 5) (v := (-1)) H h7
  replace G := gr_pI (p := 81) (k := 5) (v := (-1)) G
  replace H := tb_pI (p := 81) (k := 6) (v := (-1)) H h7
  replace G := gr_pI (p := 81) (k := 6) (v := (-1)) G
  replace H := tb_mk (t := 20) (z := 160) H (gr_7 G)
  replace G := gr_mk (t := 20) (z := 160) G
  replace H := tb_pR (p := 81) (k := 15) (v := (some (82 + 4))) H h7
  replace G := gr_pR (k := 15) (v := (some (82 + 4))) G (show 81 < _ by omega)
  replace H := tb_mk (t := 20) (z := 11) H (gr_7 G)
  replace G := gr_mk (t := 20) (z := 11) G
  replace H := tb_pR (p := 81) (k := 20) (v := (some (82 + 5))) H h7
  replace G := gr_pR (k := 20) (v := (some (82 + 5))) G (show 81 < _ by omega)
  replace H := tb_mk (t := 20) (z := 30) H (gr_7 G)
  replace G := gr_mk (t := 20) (z := 30) G
  replace H := tb_pR (p := 81) (k := 21) (v := (some (82 + 6))) H h7
  replace G := gr_pR (k := 21) (v := (some (82 + 6))) G (show 81 < _ by omega)
  replace H := tb_mk (t := 21) (z := 330) H (gr_7 G)
  replace G := gr_mk (t := 21) (z := 330) G
  replace H := tb_pR (p := 81) (k := 22) (v := (some (82 + 7))) H h7
  replace G := gr_pR (k := 22) (v := (some (82 + 7))) G (show 81 < _ by omega)
  replace H := tb_mk (t := 22) (z := 330) H (gr_7 G)
  replace G := gr_mk (t := 22) (z := 330) G
  replace H := tb_pR (p := 81) (k := 23) (v := (some (82 + 8))) H h7
  replace G := gr_pR (k := 23) (v := (some (82 + 8))) G (show 81 < _ by omega)
  replace H := tb_mk (t := 20) (z := 30) H (gr_7 G)
  replace G := gr_mk (t := 20) (z := 30) G
  replace H := tb_pR (p := 81) (k := 24) (v := (some (82 + 9))) H h7
  replace G := gr_pR (k := 24) (v := (some (82 + 9))) G (show 81 < _ by omega)
  replace H := tb_pI (p := 81) (k := 25) (v := (nI 1)) H h7
  replace G := gr_pI (p := 81) (k := 25) (v := (nI 1)) G
  replace H := tb_mk (t := 20) (z := 38) H (gr_7 G)
  replace G := gr_mk (t := 20) (z := 38) G
  replace H := tb_pR (p := 81) (k := 27) (v := (some (82 + 10))) H h7
  replace G := gr_pR (k := 27) (v := (some (82 + 10))) G (show 81 < _ by omega)
  replace H := tb_mk (t := 20) (z := 30) H (gr_7 G)
  replace G := gr_mk (t := 20) (z := 30) G
  replace H := tb_pR (p := 81) (k := 28) (v := (some (82 + 11))) H h7
  replace G := gr_pR (k := 28) (v := (some (82 + 11))) G (show 81 < _ by omega)
  replace H := tb_mk (t := 20) (z := 64) H (gr_7 G)
  replace G := gr_mk (t := 20) (z := 64) G
  replace H := tb_pR (p := 81) (k := 29) (v := (some (82 + 12))) H h7
  replace G := gr_pR (k := 29) (v := (some (82 + 12))) G (show 81 < _ by omega)
  replace H := tb_mk (t := 20) (z := 64) H (gr_7 G)
  replace G := gr_mk (t := 20) (z := 64) G
  replace H := tb_pR (p := 81) (k := 30) (v := (some (82 + 13))) H h7
  replace G := gr_pR (k := 30) (v := (some (82 + 13))) G (show 81 < _ by omega)
  replace H := tb_mk (t := 20) (z := 64) H (gr_7 G)
  replace G := gr_mk (t := 20) (z := 64) G
  replace H := tb_pR (p := 81) (k := 31) (v := (some (82 + 14))) H h7
  replace G := gr_pR (k := 31) (v := (some (82 + 14))) G (show 81 < _ by omega)
  replace H := tb_mk (t := 20) (z := 64) H (gr_7 G)
  replace G := gr_mk (t := 20) (z := 64) G
  replace H := tb_pR (p := 81) (k := 32) (v := (some (82 + 15))) H h7
  replace G := gr_pR (k := 32) (v := (some (82 + 15))) G (show 81 < _ by omega)
  exact H
theorem f_iRef {σ : mvSt} {p c i : Nat} (G : Gr σ (82) p c) (hi : i < 82) (hn : i ≠ 81) : SameAt i σ (iRef σ) := by
  have S : SameAt i σ σ := sa_refl
  have ho : 81 ≤ 81 := Nat.le_refl _
  replace S := sa_tr S (sa_mk (t := 20) (z := 1726) G (by omega))
  replace G := gr_mk (t := 20) (z := 1726) G
  replace S := sa_tr S (sa_pR (p := 81) (k := 0) (v := (some (82))) hn)
  replace G := gr_pR (p := 81) (k := 0) (v := (some (82))) G (by omega)
  replace S := sa_tr S (sa_mk (t := 20) (z := 1726) G (by omega))
  replace G := gr_mk (t := 20) (z := 1726) G
  replace S := sa_tr S (sa_pR (p := 81) (k := 1) (v := (some (82 + 1))) hn)
  replace G := gr_pR (p := 81) (k := 1) (v := (some (82 + 1))) G (by omega)
  replace S := sa_tr S (sa_mk (t := 20) (z := 2724) G (by omega))
  replace G := gr_mk (t := 20) (z := 2724) G
  replace S := sa_tr S (sa_pR (p := 81) (k := 2) (v := (some (82 + 2))) hn)
  replace G := gr_pR (p := 81) (k := 2) (v := (some (82 + 2))) G (by omega)
  replace S := sa_tr S (sa_mk (t := 20) (z := 300) G (by omega))
  replace G := gr_mk (t := 20) (z := 300) G
  replace S := sa_tr S (sa_pR (p := 81) (k := 3) (v := (some (82 + 3))) hn)
  replace G := gr_pR (p := 81) (k := 3) (v := (some (82 + 3))) G (by omega)
  replace S := sa_tr S (sa_pI (p := 81) (k := 5) (v := (-1)) hn)
  replace G := gr_pI (p := 81) (k := 5) (v := (-1)) G
  replace S := sa_tr S (sa_pI (p := 81) (k := 6) (v := (-1)) hn)
  replace G := gr_pI (p := 81) (k := 6) (v := (-1)) G
  replace S := sa_tr S (sa_mk (t := 20) (z := 160) G (by omega))
  replace G := gr_mk (t := 20) (z := 160) G
  replace S := sa_tr S (sa_pR (p := 81) (k := 15) (v := (some (82 + 4))) hn)
  replace G := gr_pR (p := 81) (k := 15) (v := (some (82 + 4))) G (by omega)
  replace S := sa_tr S (sa_mk (t := 20) (z := 11) G (by omega))
  replace G := gr_mk (t := 20) (z := 11) G
  replace S := sa_tr S (sa_pR (p := 81) (k := 20) (v := (some (82 + 5))) hn)
  replace G := gr_pR (p := 81) (k := 20) (v := (some (82 + 5))) G (by omega)
  replace S := sa_tr S (sa_mk (t := 20) (z := 30) G (by omega))
  replace G := gr_mk (t := 20) (z := 30) G
  replace S := sa_tr S (sa_pR (p := 81) (k := 21) (v := (some (82 + 6))) hn)
  replace G := gr_pR (p := 81) (k := 21) (v := (some (82 + 6))) G (by omega)
  replace S := sa_tr S (sa_mk (t := 21) (z := 330) G (by omega))
  replace G := gr_mk (t := 21) (z := 330) G
  replace S := sa_tr S (sa_pR (p := 81) (k := 22) (v := (some (82 + 7))) hn)
  replace G := gr_pR (p := 81) (k := 22) (v := (some (82 + 7))) G (by omega)
  replace S := sa_tr S (sa_mk (t := 22) (z := 330) G (by omega))
  replace G := gr_mk (t := 22) (z := 330) G
  replace S := sa_tr S (sa_pR (p := 81) (k := 23) (v := (some (82 + 8))) hn)
  replace G := gr_pR (p := 81) (k := 23) (v := (some (82 + 8))) G (by omega)
  replace S := sa_tr S (sa_mk (t := 20) (z := 30) G (by omega))
  replace G := gr_mk (t := 20) (z := 30) G
  replace S := sa_tr S (sa_pR (p := 81) (k := 24) (v := (some (82 + 9))) hn)
  replace G := gr_pR (p := 81) (k := 24) (v := (some (82 + 9))) G (by omega)
  replace S := sa_tr S (sa_pI (p := 81) (k := 25) (v := (nI 1)) hn)
  replace G := gr_pI (p := 81) (k := 25) (v := (nI 1)) G
  replace S := sa_tr S (sa_mk (t := 20) (z := 38) G (by omega))
  replace G := gr_mk (t := 20) (z := 38) G
  replace S := sa_tr S (sa_pR (p := 81) (k := 27) (v := (some (82 + 10))) hn)
  replace G := gr_pR (p := 81) (k := 27) (v := (some (82 + 10))) G (by omega)
  replace S := sa_tr S (sa_mk (t := 20) (z := 30) G (by omega))
  replace G := gr_mk (t := 20) (z := 30) G
  replace S := sa_tr S (sa_pR (p := 81) (k := 28) (v := (some (82 + 11))) hn)
  replace G := gr_pR (p := 81) (k := 28) (v := (some (82 + 11))) G (by omega)
  replace S := sa_tr S (sa_mk (t := 20) (z := 64) G (by omega))
  replace G := gr_mk (t := 20) (z := 64) G
  replace S := sa_tr S (sa_pR (p := 81) (k := 29) (v := (some (82 + 12))) hn)
  replace G := gr_pR (p := 81) (k := 29) (v := (some (82 + 12))) G (by omega)
  replace S := sa_tr S (sa_mk (t := 20) (z := 64) G (by omega))
  replace G := gr_mk (t := 20) (z := 64) G
  replace S := sa_tr S (sa_pR (p := 81) (k := 30) (v := (some (82 + 13))) hn)
  replace G := gr_pR (p := 81) (k := 30) (v := (some (82 + 13))) G (by omega)
  replace S := sa_tr S (sa_mk (t := 20) (z := 64) G (by omega))
  replace G := gr_mk (t := 20) (z := 64) G
  replace S := sa_tr S (sa_pR (p := 81) (k := 31) (v := (some (82 + 14))) hn)
  replace G := gr_pR (p := 81) (k := 31) (v := (some (82 + 14))) G (by omega)
  replace S := sa_tr S (sa_mk (t := 20) (z := 64) G (by omega))
  replace G := gr_mk (t := 20) (z := 64) G
  replace S := sa_tr S (sa_pR (p := 81) (k := 32) (v := (some (82 + 15))) hn)
  replace G := gr_pR (p := 81) (k := 32) (v := (some (82 + 15))) G (by omega)
  exact S
