/-! CUTTING THE TAPE: the class -/
section CT
variable {L t : Nat} {lt rt rp : Option Nat} {sw : Bool} {gl : Nat → Nat → Int64} {h : Nat → Nat → Int32}
theorem t_isBlank {σ : mvSt} (c : Nat) (hc : c < 256) : avE 0 41 [.int (nI c)] σ (some (.int (bI (isB c = true))), σ) := by
  show avA _ 41 0 [.int (nI (c))] [] _ _
  refine a_iload_0 rfl rfl ?_
  refine a_bipush (v := (nI 32)) rfl rfl rfl ?_
  refine a_cmpN_eq rfl rfl rfl (by omega) (by omega) (fun c_3 => ?_) (fun c_3 => ?_)
  · refine a_iconst (v := (nI 1)) rfl rfl rfl ?_
    refine a_goto rfl rfl ?_
    refine av_to (a_zret rfl rfl (Or.inr rfl)) (bz1 ?_)
    unfold isB; simp; omega
  · refine a_iload_0 rfl rfl ?_
    refine a_bipush (v := (nI 10)) rfl rfl rfl ?_
    refine a_cmpN_ne rfl rfl rfl (by omega) (by omega) (fun c_9 => ?_) (fun c_9 => ?_)
    · refine a_iconst (v := (nI 0)) rfl rfl rfl ?_
      refine av_to (a_zret rfl rfl (Or.inl rfl)) (bz0 ?_)
      unfold isB; simp; omega
    · refine a_iconst (v := (nI 1)) rfl rfl rfl ?_
      refine a_goto rfl rfl ?_
      refine av_to (a_zret rfl rfl (Or.inr rfl)) (bz1 ?_)
      unfold isB; simp; omega
theorem t_isLetter {σ : mvSt} (c : Nat) (hc : c < 256) : avE 0 42 [.int (nI c)] σ (some (.int (bI (isL c = true))), σ) := by
  show avA _ 42 0 [.int (nI (c))] [] _ _
  refine a_iload_0 rfl rfl ?_
  refine a_bipush (v := (nI 97)) rfl rfl rfl ?_
  refine a_cmpN_lt rfl rfl rfl (by omega) (by omega) (fun c_3 => ?_) (fun c_3 => ?_)
  · refine a_iload_0 rfl rfl ?_
    refine a_bipush (v := (nI 65)) rfl rfl rfl ?_
    refine a_cmpN_lt rfl rfl rfl (by omega) (by omega) (fun c_15 => ?_) (fun c_15 => ?_)
    · refine a_iconst (v := (nI 0)) rfl rfl rfl ?_
      refine av_to (a_zret rfl rfl (Or.inl rfl)) (bz0 ?_)
      unfold isL; simp; omega
    · refine a_iload_0 rfl rfl ?_
      refine a_bipush (v := (nI 90)) rfl rfl rfl ?_
      refine a_cmpN_gt rfl rfl rfl (by omega) (by omega) (fun c_21 => ?_) (fun c_21 => ?_)
      · refine a_iconst (v := (nI 0)) rfl rfl rfl ?_
        refine av_to (a_zret rfl rfl (Or.inl rfl)) (bz0 ?_)
        unfold isL; simp; omega
      · refine a_iconst (v := (nI 1)) rfl rfl rfl ?_
        refine a_goto rfl rfl ?_
        refine av_to (a_zret rfl rfl (Or.inr rfl)) (bz1 ?_)
        unfold isL; simp; omega
  · refine a_iload_0 rfl rfl ?_
    refine a_bipush (v := (nI 122)) rfl rfl rfl ?_
    refine a_cmpN_le rfl rfl rfl (by omega) (by omega) (fun c_9 => ?_) (fun c_9 => ?_)
    · refine a_iconst (v := (nI 1)) rfl rfl rfl ?_
      refine a_goto rfl rfl ?_
      refine av_to (a_zret rfl rfl (Or.inr rfl)) (bz1 ?_)
      unfold isL; simp; omega
    · refine a_iload_0 rfl rfl ?_
      refine a_bipush (v := (nI 65)) rfl rfl rfl ?_
      refine a_cmpN_lt rfl rfl rfl (by omega) (by omega) (fun c_15 => ?_) (fun c_15 => ?_)
      · refine a_iconst (v := (nI 0)) rfl rfl rfl ?_
        refine av_to (a_zret rfl rfl (Or.inl rfl)) (bz0 ?_)
        unfold isL; simp; omega
      · refine a_iload_0 rfl rfl ?_
        refine a_bipush (v := (nI 90)) rfl rfl rfl ?_
        refine a_cmpN_gt rfl rfl rfl (by omega) (by omega) (fun c_21 => ?_) (fun c_21 => ?_)
        · refine a_iconst (v := (nI 0)) rfl rfl rfl ?_
          refine av_to (a_zret rfl rfl (Or.inl rfl)) (bz0 ?_)
          unfold isL; simp; omega
        · refine a_iconst (v := (nI 1)) rfl rfl rfl ?_
          refine a_goto rfl rfl ?_
          refine av_to (a_zret rfl rfl (Or.inr rfl)) (bz1 ?_)
          unfold isL; simp; omega
theorem t_isDigit {σ : mvSt} (c : Nat) (hc : c < 256) : avE 0 46 [.int (nI c)] σ (some (.int (bI (isD c = true))), σ) := by
  show avA _ 46 0 [.int (nI (c))] [] _ _
  refine a_iload_0 rfl rfl ?_
  refine a_bipush (v := (nI 48)) rfl rfl rfl ?_
  refine a_cmpN_lt rfl rfl rfl (by omega) (by omega) (fun c_3 => ?_) (fun c_3 => ?_)
  · refine a_iconst (v := (nI 0)) rfl rfl rfl ?_
    refine av_to (a_zret rfl rfl (Or.inl rfl)) (bz0 ?_)
    unfold isD; simp; omega
  · refine a_iload_0 rfl rfl ?_
    refine a_bipush (v := (nI 57)) rfl rfl rfl ?_
    refine a_cmpN_gt rfl rfl rfl (by omega) (by omega) (fun c_9 => ?_) (fun c_9 => ?_)
    · refine a_iconst (v := (nI 0)) rfl rfl rfl ?_
      refine av_to (a_zret rfl rfl (Or.inl rfl)) (bz0 ?_)
      unfold isD; simp; omega
    · refine a_iconst (v := (nI 1)) rfl rfl rfl ?_
      refine a_goto rfl rfl ?_
      refine av_to (a_zret rfl rfl (Or.inr rfl)) (bz1 ?_)
      unfold isD; simp; omega
theorem e_checkI {σ : mvSt} (i n : Nat) (hi : i < n) (hn : n < 1000) : avE 0 15 [.int (nI i), .int (nI n), .ref 6] σ (some (.int (nI i)), σ) := by
  show avA _ 15 0 [.int (nI (i)), .int (nI (n)), .ref 6] [] _ _
  refine a_iload_0 rfl rfl ?_
  refine a_ifN_lt rfl rfl rfl (by omega) (fun c_1 => False.elim (by omega)) (fun _ => ?_)
  refine a_iload_0 rfl rfl ?_
  refine a_iload_1 rfl rfl ?_
  refine a_cmpN_lt rfl rfl rfl (by omega) (by omega) (fun _ => ?_) (fun c_6 => False.elim (by omega))
  refine a_iload_0 rfl rfl ?_
  exact a_iret rfl rfl
theorem e_sCheck {σ : mvSt} (i n : Nat) (hi : i < n) (hn : n < 1000) : avE 1 14 [.int (nI i), .int (nI n)] σ (none, σ) := by
  show avA _ 14 0 [.int (nI (i)), .int (nI (n))] [] _ _
  refine a_iload_0 rfl rfl ?_
  refine a_iload_1 rfl rfl ?_
  refine a_gets1 rfl rfl ?_
  refine a_statI rfl rfl (e_checkI i n hi hn) (Nat.le_of_ble_eq_true rfl) ⟨rfl, rfl, rfl⟩ rfl rfl rfl (Nat.le_of_ble_eq_true rfl) rfl ?_
  refine a_pop rfl rfl rfl ?_
  exact a_vret rfl rfl
theorem e_latin_2 (H : h 2 1 = 0) : avE 0 12 [.ref 2] (sX L t lt rt rp sw h gl) (some (.int (bI True)), sX L t lt rt rp sw h gl) := by
  show avA _ 12 0 [.ref 2] [] _ _
  refine a_gets0 (v := nI 1) rfl rfl rfl ?_
  refine a_ifN_eq rfl rfl rfl (by omega) (fun c_3 => absurd c_3 (by decide)) (fun _ => ?_)
  refine a_aload_0 rfl rfl ?_
  refine a_geti rfl rfl rfl (fun _ _ _ => rfl) ?_
  refine a_as (y := nI (0)) H ?_
  refine a_ifN_ne rfl rfl rfl (by omega) (fun c_10 => ?_) (fun c_10 => ?_)
  · refine a_iconst (v := (nI 0)) rfl rfl rfl ?_
    refine av_to (a_zret rfl rfl (Or.inl rfl)) (bz0 ?_)
    trivial
  · refine a_iconst (v := (nI 1)) rfl rfl rfl ?_
    refine a_goto rfl rfl ?_
    refine av_to (a_zret rfl rfl (Or.inr rfl)) (bz1 ?_)
    trivial
theorem e_coder_2 (H : h 2 1 = 0) : avE 0 10 [.ref 2] (sX L t lt rt rp sw h gl) (some (.int (nI 0)), sX L t lt rt rp sw h gl) := by
  show avA _ 10 0 [.ref 2] [] _ _
  refine a_gets0 (v := nI 1) rfl rfl rfl ?_
  refine a_ifN_eq rfl rfl rfl (by omega) (fun c_3 => absurd c_3 (by decide)) (fun _ => ?_)
  refine a_aload_0 rfl rfl ?_
  refine a_geti rfl rfl rfl (fun _ _ _ => rfl) ?_
  refine a_as (y := nI (0)) H ?_
  refine a_goto rfl rfl ?_
  exact a_bret rfl rfl rfl
theorem e_slen_2 (H : h 2 1 = 0) : avE 1 9 [.ref 2] (sX L t lt rt rp sw h gl) (some (.int (nI 151)), sX L t lt rt rp sw h gl) := by
  show avA _ 9 0 [.ref 2] [] _ _
  refine a_aload_0 rfl rfl ?_
  refine a_getr rfl rfl rfl (fun _ _ _ => rfl) rfl ?_
  refine a_alen rfl rfl rfl rfl ?_
  refine a_aload_0 rfl rfl ?_
  refine a_virtI rfl rfl (e_coder_2 H) (Nat.le_of_ble_eq_true rfl) ⟨rfl, rfl, rfl, rfl⟩ rfl rfl rfl (Nat.le_of_ble_eq_true rfl) rfl rfl ?_
  refine a_ishr rfl rfl ?_
  refine av_to (a_iret rfl rfl) ?_
  rfl
theorem e_latin_4 (H : h 4 1 = 0) : avE 0 12 [.ref 4] (sX L t lt rt rp sw h gl) (some (.int (bI True)), sX L t lt rt rp sw h gl) := by
  show avA _ 12 0 [.ref 4] [] _ _
  refine a_gets0 (v := nI 1) rfl rfl rfl ?_
  refine a_ifN_eq rfl rfl rfl (by omega) (fun c_3 => absurd c_3 (by decide)) (fun _ => ?_)
  refine a_aload_0 rfl rfl ?_
  refine a_geti rfl rfl rfl (fun _ _ _ => rfl) ?_
  refine a_as (y := nI (0)) H ?_
  refine a_ifN_ne rfl rfl rfl (by omega) (fun c_10 => ?_) (fun c_10 => ?_)
  · refine a_iconst (v := (nI 0)) rfl rfl rfl ?_
    refine av_to (a_zret rfl rfl (Or.inl rfl)) (bz0 ?_)
    trivial
  · refine a_iconst (v := (nI 1)) rfl rfl rfl ?_
    refine a_goto rfl rfl ?_
    refine av_to (a_zret rfl rfl (Or.inr rfl)) (bz1 ?_)
    trivial
theorem e_coder_4 (H : h 4 1 = 0) : avE 0 10 [.ref 4] (sX L t lt rt rp sw h gl) (some (.int (nI 0)), sX L t lt rt rp sw h gl) := by
  show avA _ 10 0 [.ref 4] [] _ _
  refine a_gets0 (v := nI 1) rfl rfl rfl ?_
  refine a_ifN_eq rfl rfl rfl (by omega) (fun c_3 => absurd c_3 (by decide)) (fun _ => ?_)
  refine a_aload_0 rfl rfl ?_
  refine a_geti rfl rfl rfl (fun _ _ _ => rfl) ?_
  refine a_as (y := nI (0)) H ?_
  refine a_goto rfl rfl ?_
  exact a_bret rfl rfl rfl
theorem e_slen_4 (H : h 4 1 = 0) : avE 1 9 [.ref 4] (sX L t lt rt rp sw h gl) (some (.int (nI 11)), sX L t lt rt rp sw h gl) := by
  show avA _ 9 0 [.ref 4] [] _ _
  refine a_aload_0 rfl rfl ?_
  refine a_getr rfl rfl rfl (fun _ _ _ => rfl) rfl ?_
  refine a_alen rfl rfl rfl rfl ?_
  refine a_aload_0 rfl rfl ?_
  refine a_virtI rfl rfl (e_coder_4 H) (Nat.le_of_ble_eq_true rfl) ⟨rfl, rfl, rfl, rfl⟩ rfl rfl rfl (Nat.le_of_ble_eq_true rfl) rfl rfl ?_
  refine a_ishr rfl rfl ?_
  refine av_to (a_iret rfl rfl) ?_
  rfl
theorem wb_ch : ∀ i, i < 151 → (((msWords.getD i 0 &&& nI 255).toUInt32 % 65536).toInt32) = nI (WB i) ∧ (nI (WB i)).toUInt32.toUInt16.toUInt32.toInt32 = nI (WB i) := by decide +kernel
theorem e_lchar (H : KI h) (i : Nat) (hi : i < 151) : avE 2 13 [.ref 3, .int (nI i)] (sX L t lt rt rp sw h gl) (some (.int (nI (WB i))), sX L t lt rt rp sw h gl) := by
  have e : h 3 i = msWords.getD i 0 := by rw [H.2.2.1]
  show avA _ 13 0 [.ref 3, .int (nI (i))] [] _ _
  refine a_iload_1 rfl rfl ?_
  refine a_aload_0 rfl rfl ?_
  refine a_alen rfl rfl rfl rfl ?_
  refine a_stat0 rfl rfl (e_sCheck i 151 hi (by omega)) (Nat.le_of_ble_eq_true rfl) ⟨rfl, rfl, rfl⟩ rfl rfl rfl (Nat.le_of_ble_eq_true rfl) rfl ?_
  refine a_aload_0 rfl rfl ?_
  refine a_iload_1 rfl rfl ?_
  refine a_bald rfl rfl (Or.inr rfl) rfl (by omega) (by decide) ?_
  refine a_as (y := msWords.getD i 0) e ?_
  refine a_sipush (v := (nI 255)) rfl rfl rfl ?_
  refine a_iand rfl rfl ?_
  refine a_i2c rfl rfl ?_
  refine a_as (y := nI (WB i)) (wb_ch i hi).1 ?_
  exact a_cret rfl rfl (wb_ch i hi).2
theorem e_charAt (H : KI h) (i : Nat) (hi : i < 151) : avE 3 11 [.ref 2, .int (nI i)] (sX L t lt rt rp sw h gl) (some (.int (nI (WB i))), sX L t lt rt rp sw h gl) := by
  show avA _ 11 0 [.ref 2, .int (nI (i))] [] _ _
  refine a_aload_0 rfl rfl ?_
  refine a_virtI rfl rfl (e_latin_2 H.2.1) (Nat.le_of_ble_eq_true rfl) ⟨rfl, rfl, rfl, rfl⟩ rfl rfl rfl (Nat.le_of_ble_eq_true rfl) rfl rfl ?_
  refine a_ifb_eq rfl rfl rfl (fun c_4 => by first | exact absurd c_4 (not_not_intro trivial) | exact absurd (not_not_intro trivial) c_4) (fun _ => ?_)
  refine a_aload_0 rfl rfl ?_
  refine a_getr rfl rfl rfl (fun _ _ _ => rfl) rfl ?_
  refine a_iload_1 rfl rfl ?_
  refine a_statI rfl rfl (e_lchar H i hi) (Nat.le_of_ble_eq_true rfl) ⟨rfl, rfl, rfl⟩ rfl rfl rfl (Nat.le_of_ble_eq_true rfl) rfl ?_
  exact a_cret rfl rfl (wb_ch i hi).2
def ixF (x : Int32) : Nat → Nat → Int32
  | 0, _ => -1
  | n + 1, i => if msSigns.getD i 0 = x then nI i else ixF x n (i + 1)
theorem ix_sg : ∀ c, c < 256 → ixF (nI c).toInt8.toInt32 11 0 = if sgC c = 47 then -1 else nI (sgC c - 32) := by decide +kernel
theorem l_ioc (H : KI h) (c : Int32) (x : Int32) (n : Nat) : ∀ i, i + n = 11 → avA 0 53 7 [.ref 5, .int c, .int (nI 0), .int (nI 11), .int x, .int (nI i)] [] (sX L t lt rt rp sw h gl) (some (.int (ixF x n i)), sX L t lt rt rp sw h gl) := by
  induction n with
  | zero =>
    intro i hi
    have e : i = 11 := by omega
    subst e
    refine a_iload_5 rfl rfl ?_
    refine a_iload_3 rfl rfl ?_
    refine a_cmpN_ge rfl rfl rfl (by omega) (by omega) (fun _ => ?_) (fun c_10 => absurd c_10 (by decide))
    refine a_iconst (v := (-1)) rfl rfl rfl ?_
    exact a_iret rfl rfl
  | succ n ih =>
    intro i hi
    have Z := ih (i + 1) (by omega)
    have e : h 5 i = msSigns.getD i 0 := by rw [H.2.2.2.2.1]
    rw [ixF]
    by_cases c1 : msSigns.getD i 0 = x
    · rw [if_pos c1]
      refine a_iload_5 rfl rfl ?_
      refine a_iload_3 rfl rfl ?_
      refine a_cmpN_ge rfl rfl rfl (by omega) (by omega) (fun c_10 => False.elim (by omega)) (fun _ => ?_)
      refine a_aload_0 rfl rfl ?_
      refine a_iload_5 rfl rfl ?_
      refine a_bald rfl rfl (Or.inr rfl) rfl (by omega) (by decide) ?_
      refine a_as (y := msSigns.getD i 0) e ?_
      refine a_iload_4 rfl rfl ?_
      refine a_cmp_ne rfl rfl rfl (fun c_19 => by first | exact absurd c_19 c1 | exact absurd c1 c_19) (fun _ => ?_)
      refine a_iload_5 rfl rfl ?_
      exact a_iret rfl rfl
    · rw [if_neg c1]
      refine a_iload_5 rfl rfl ?_
      refine a_iload_3 rfl rfl ?_
      refine a_cmpN_ge rfl rfl rfl (by omega) (by omega) (fun c_10 => False.elim (by omega)) (fun _ => ?_)
      refine a_aload_0 rfl rfl ?_
      refine a_iload_5 rfl rfl ?_
      refine a_bald rfl rfl (Or.inr rfl) rfl (by omega) (by decide) ?_
      refine a_as (y := msSigns.getD i 0) e ?_
      refine a_iload_4 rfl rfl ?_
      refine a_cmp_ne rfl rfl rfl (fun _ => ?_) (fun c_19 => by first | exact absurd c1 c_19 | exact absurd c_19 c1)
      refine a_iinc_5 rfl rfl (nI_inc _ _) rfl ?_
      refine a_goto rfl rfl ?_
      exact Z
theorem e_ioc (H : KI h) (c : Nat) (hc : c < 256) : avE 0 53 [.ref 5, .int (nI c), .int (nI 0), .int (nI 11)] (sX L t lt rt rp sw h gl) (some (.int (if sgC c = 47 then -1 else nI (sgC c - 32))), sX L t lt rt rp sw h gl) := by
  have Z := l_ioc (L := L) (t := t) (lt := lt) (rt := rt) (rp := rp) (sw := sw) (gl := gl) H (nI c) (nI c).toInt8.toInt32 11 0 rfl
  rw [ix_sg c hc] at Z
  show avA _ 53 0 [.ref 5, .int (nI (c)), .int (nI 0), .int (nI 11), mvU, mvU] [] _ _
  refine a_iload_1 rfl rfl ?_
  refine a_i2b rfl rfl ?_
  refine a_istore_4 rfl rfl rfl ?_
  refine a_iload_2 rfl rfl ?_
  refine a_istore_5 rfl rfl rfl ?_
  exact Z
theorem e_canEnc {σ : mvSt} (c : Nat) (hc : c < 256) : avE 0 52 [.int (nI c)] σ (some (.int (bI True)), σ) := by
  show avA _ 52 0 [.int (nI (c))] [] _ _
  refine a_iload_0 rfl rfl ?_
  refine a_ifN_lt rfl rfl rfl (by omega) (fun c_1 => False.elim (by omega)) (fun _ => ?_)
  refine a_iload_0 rfl rfl ?_
  refine a_sipush (v := (nI 255)) rfl rfl rfl ?_
  refine a_cmpN_gt rfl rfl rfl (by omega) (by omega) (fun c_8 => False.elim (by omega)) (fun _ => ?_)
  refine a_iconst (v := (nI 1)) rfl rfl rfl ?_
  refine a_goto rfl rfl ?_
  refine av_to (a_zret rfl rfl (Or.inr rfl)) (bz1 ?_)
  trivial
theorem e_lidx (H : KI h) (c : Nat) (hc : c < 256) : avE 1 51 [.ref 5, .int (nI c), .int (nI 0), .int (nI 11)] (sX L t lt rt rp sw h gl) (some (.int (if sgC c = 47 then -1 else nI (sgC c - 32))), sX L t lt rt rp sw h gl) := by
  show avA _ 51 0 [.ref 5, .int (nI (c)), .int (nI 0), .int (nI 11)] [] _ _
  refine a_iload_1 rfl rfl ?_
  refine a_statI rfl rfl (e_canEnc c hc) (Nat.le_of_ble_eq_true rfl) ⟨rfl, rfl, rfl⟩ rfl rfl rfl (Nat.le_of_ble_eq_true rfl) rfl ?_
  refine a_ifb_ne rfl rfl rfl (fun _ => ?_) (fun c_4 => by first | exact absurd trivial c_4 | exact absurd c_4 trivial)
  refine a_iload_2 rfl rfl ?_
  refine a_iconst (v := (nI 0)) rfl rfl rfl ?_
  refine a_maxN rfl rfl (Nat.le_of_ble_eq_true rfl) (by omega) (by omega) ?_
  refine a_as (y := nI (0)) rfl ?_
  refine a_istore_2 rfl rfl rfl ?_
  refine a_iload_3 rfl rfl ?_
  refine a_aload_0 rfl rfl ?_
  refine a_alen rfl rfl rfl rfl ?_
  refine a_minN rfl rfl (Nat.le_of_ble_eq_true rfl) (by omega) (by omega) ?_
  refine a_as (y := nI (11)) rfl ?_
  refine a_istore_3 rfl rfl rfl ?_
  refine a_iload_2 rfl rfl ?_
  refine a_iload_3 rfl rfl ?_
  refine a_cmpN_lt rfl rfl rfl (by omega) (by omega) (fun _ => ?_) (fun c_24 => False.elim (by omega))
  refine a_aload_0 rfl rfl ?_
  refine a_iload_1 rfl rfl ?_
  refine a_iload_2 rfl rfl ?_
  refine a_iload_3 rfl rfl ?_
  refine a_statI rfl rfl (e_ioc H c hc) (Nat.le_of_ble_eq_true rfl) ⟨rfl, rfl, rfl⟩ rfl rfl rfl (Nat.le_of_ble_eq_true rfl) rfl ?_
  exact a_iret rfl rfl
theorem e_idx1 (H : KI h) (c : Nat) (hc : c < 256) : avE 2 50 [.ref 4, .int (nI c), .int (nI 0)] (sX L t lt rt rp sw h gl) (some (.int (if sgC c = 47 then -1 else nI (sgC c - 32))), sX L t lt rt rp sw h gl) := by
  show avA _ 50 0 [.ref 4, .int (nI (c)), .int (nI 0)] [] _ _
  refine a_aload_0 rfl rfl ?_
  refine a_virtI rfl rfl (e_latin_4 H.2.2.2.1) (Nat.le_of_ble_eq_true rfl) ⟨rfl, rfl, rfl, rfl⟩ rfl rfl rfl (Nat.le_of_ble_eq_true rfl) rfl rfl ?_
  refine a_ifb_eq rfl rfl rfl (fun c_4 => by first | exact absurd c_4 (not_not_intro trivial) | exact absurd (not_not_intro trivial) c_4) (fun _ => ?_)
  refine a_aload_0 rfl rfl ?_
  refine a_getr rfl rfl rfl (fun _ _ _ => rfl) rfl ?_
  refine a_iload_1 rfl rfl ?_
  refine a_iload_2 rfl rfl ?_
  refine a_aload_0 rfl rfl ?_
  refine a_virtI rfl rfl (e_slen_4 H.2.2.2.1) (Nat.le_of_ble_eq_true rfl) ⟨rfl, rfl, rfl, rfl⟩ rfl rfl rfl (Nat.le_of_ble_eq_true rfl) rfl rfl ?_
  refine a_statI rfl rfl (e_lidx H c hc) (Nat.le_of_ble_eq_true rfl) ⟨rfl, rfl, rfl⟩ rfl rfl rfl (Nat.le_of_ble_eq_true rfl) rfl ?_
  refine a_goto rfl rfl ?_
  exact a_iret rfl rfl
theorem e_indexOf (H : KI h) (c : Nat) (hc : c < 256) : avE 3 49 [.ref 4, .int (nI c)] (sX L t lt rt rp sw h gl) (some (.int (if sgC c = 47 then -1 else nI (sgC c - 32))), sX L t lt rt rp sw h gl) := by
  show avA _ 49 0 [.ref 4, .int (nI (c))] [] _ _
  refine a_aload_0 rfl rfl ?_
  refine a_iload_1 rfl rfl ?_
  refine a_iconst (v := (nI 0)) rfl rfl rfl ?_
  refine a_virtI rfl rfl (e_idx1 H c hc) (Nat.le_of_ble_eq_true rfl) ⟨rfl, rfl, rfl, rfl⟩ rfl rfl rfl (Nat.le_of_ble_eq_true rfl) rfl rfl ?_
  exact a_iret rfl rfl
end CT
