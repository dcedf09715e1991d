/-! THE CALLS feed, end, fault and about -/
theorem i32_nI (x : Int32) : ∃ a : Nat, x = nI a := ⟨x.toBitVec.toNat, Int32.toBitVec_inj.mp (by
  show x.toBitVec = BitVec.ofNat 32 x.toBitVec.toNat
  simp)⟩
theorem and_low (x : Int32) (m : Nat) : ∃ a : Nat, a ≤ m ∧ x &&& nI m = nI a := by
  obtain ⟨a, rfl⟩ := i32_nI x
  exact ⟨a &&& m, Nat.and_le_right, nI_and a m⟩
theorem stG_ask {dC kC : Nat} {asC : List Value} {dR kR : Nat} {asR : List Value} (H : ∀ (L t : Nat) (lt rt rp : Option Nat) (sw : Bool) (h : Nat → Nat → Int32) (gl : Nat → Nat → Int64) (R : Nat) (A B : Nat → Int32) (TX : Nat → Txt) (b : Nat → Nat) (k : Nat), GG A B TX R t lt b k h → ∃ v : Int32, avE dC kC asC (sX L t lt rt rp sw h gl) (some (.int v), sX L t lt rt rp sw h gl) ∧ avE dR kR asR (sX L t lt rt rp sw h gl) (some (.int v), sX L t lt rt rp sw h gl)) : stG 0 dC kC asC dR kR asR := by
  intro L t lt rt rp sw h gl R A B TX b k G hR
  obtain ⟨v, c1, c2⟩ := H L t lt rt rp sw h gl R A B TX b k G
  exact ⟨v, t, lt, rt, rp, sw, h, gl, h, gl, R, A, B, TX, b, k, c1, c2, rfl, rfl, G, by omega⟩
theorem st_fault (w : Int32) : stG 0 0 81 [.ref 7, .int w] 0 234 [.ref 81, .int w] := by
  refine stG_ask (fun L t lt rt rp sw h gl R A B TX b k G => ?_)
  obtain ⟨_, _, _, _, _, _, _, f1, f2⟩ := G
  refine ⟨_, c_fault w, ?_⟩
  rw [f1, f2]
  exact r_fault w
theorem st_about (w : Int32) : stG 0 0 180 [.ref 7, .int w] 1 322 [.ref 81, .int w] := by
  refine stG_ask (fun L t lt rt rp sw h gl R A B TX b k G => ?_)
  obtain ⟨C, Q, K, Z, T, P, l3, f1, f2⟩ := G
  obtain ⟨_, m, _, pr, ⟨q1, q2, q3, q4⟩, _, r2, r1⟩ := C.2.2.2.1
  have e3 : h 11 5 = A 3 := by
    obtain ⟨pf, pc, _, _, _, p4, p5, _⟩ := pr
    rw [gN_eq C.1.1 (i := 3) (by omega) (by decide), p5]
    exact p4
  by_cases c : 0 ≤ w.toInt ∧ w.toInt ≤ 8
  · obtain ⟨n, hn, rfl, _⟩ := cell_of (m := 9) c.1 (by have := c.2; omega)
    match n, hn with
    | 0, _ =>
      refine ⟨A 0, ?_, ?_⟩
      · show avA _ 180 0 [.ref 7, .int (nI 0)] [] _ _
        refine a_iload_1 rfl rfl ?_
        refine a_tabIn rfl (by decide) rfl rfl ?_
        refine a_aload_0 rfl rfl ?_
        refine a_getr rfl rfl rfl (fun _ _ _ => rfl) rfl ?_
        refine a_getr rfl rfl rfl (fun _ _ _ => rfl) rfl ?_
        refine a_geti rfl rfl rfl (fun _ _ _ => rfl) ?_
        refine a_as (y := A 0) m.2.2.2.2.1 ?_
        exact a_iret rfl rfl
      · show avA _ 322 0 [.ref 81, .int (nI 0)] [] _ _
        refine a_iload_1 rfl rfl ?_
        refine a_iconst (v := (nI 0)) rfl rfl rfl ?_
        refine a_bipush (v := (nI 7)) rfl rfl rfl ?_
        refine a_statI rfl rfl (r_isIn0 _ _ _ (by omega) (by omega)) (Nat.le_of_ble_eq_true rfl) ⟨rfl, rfl, rfl⟩ rfl rfl rfl (Nat.le_of_ble_eq_true rfl) rfl ?_
        refine a_ifb_eq rfl rfl rfl (fun c_7 => by first | exact absurd c_7 (not_not_intro (by decide)) | exact absurd (not_not_intro (by decide)) c_7) (fun _ => ?_)
        refine a_aload_0 rfl rfl ?_
        refine a_getr rfl rfl rfl (fun _ _ _ => rfl) rfl ?_
        refine a_iload_1 rfl rfl ?_
        refine a_iald rfl rfl (Or.inl rfl) rfl (by omega) (by decide) ?_
        refine a_as (y := A 0) (congrFun Q.1 0) ?_
        refine a_goto rfl rfl ?_
        exact a_iret rfl rfl
    | 1, _ =>
      refine ⟨A 1, ?_, ?_⟩
      · show avA _ 180 0 [.ref 7, .int (nI 1)] [] _ _
        refine a_iload_1 rfl rfl ?_
        refine a_tabIn rfl (by decide) rfl rfl ?_
        refine a_aload_0 rfl rfl ?_
        refine a_getr rfl rfl rfl (fun _ _ _ => rfl) rfl ?_
        refine a_geti rfl rfl rfl (fun _ _ _ => rfl) ?_
        refine a_as (y := A 1) r1 ?_
        exact a_iret rfl rfl
      · show avA _ 322 0 [.ref 81, .int (nI 1)] [] _ _
        refine a_iload_1 rfl rfl ?_
        refine a_iconst (v := (nI 0)) rfl rfl rfl ?_
        refine a_bipush (v := (nI 7)) rfl rfl rfl ?_
        refine a_statI rfl rfl (r_isIn0 _ _ _ (by omega) (by omega)) (Nat.le_of_ble_eq_true rfl) ⟨rfl, rfl, rfl⟩ rfl rfl rfl (Nat.le_of_ble_eq_true rfl) rfl ?_
        refine a_ifb_eq rfl rfl rfl (fun c_7 => by first | exact absurd c_7 (not_not_intro (by decide)) | exact absurd (not_not_intro (by decide)) c_7) (fun _ => ?_)
        refine a_aload_0 rfl rfl ?_
        refine a_getr rfl rfl rfl (fun _ _ _ => rfl) rfl ?_
        refine a_iload_1 rfl rfl ?_
        refine a_iald rfl rfl (Or.inl rfl) rfl (by omega) (by decide) ?_
        refine a_as (y := A 1) (congrFun Q.1 1) ?_
        refine a_goto rfl rfl ?_
        exact a_iret rfl rfl
    | 2, _ =>
      refine ⟨A 2, ?_, ?_⟩
      · show avA _ 180 0 [.ref 7, .int (nI 2)] [] _ _
        refine a_iload_1 rfl rfl ?_
        refine a_tabIn rfl (by decide) rfl rfl ?_
        refine a_aload_0 rfl rfl ?_
        refine a_getr rfl rfl rfl (fun _ _ _ => rfl) rfl ?_
        refine a_geti rfl rfl rfl (fun _ _ _ => rfl) ?_
        refine a_as (y := A 2) r2 ?_
        exact a_iret rfl rfl
      · show avA _ 322 0 [.ref 81, .int (nI 2)] [] _ _
        refine a_iload_1 rfl rfl ?_
        refine a_iconst (v := (nI 0)) rfl rfl rfl ?_
        refine a_bipush (v := (nI 7)) rfl rfl rfl ?_
        refine a_statI rfl rfl (r_isIn0 _ _ _ (by omega) (by omega)) (Nat.le_of_ble_eq_true rfl) ⟨rfl, rfl, rfl⟩ rfl rfl rfl (Nat.le_of_ble_eq_true rfl) rfl ?_
        refine a_ifb_eq rfl rfl rfl (fun c_7 => by first | exact absurd c_7 (not_not_intro (by decide)) | exact absurd (not_not_intro (by decide)) c_7) (fun _ => ?_)
        refine a_aload_0 rfl rfl ?_
        refine a_getr rfl rfl rfl (fun _ _ _ => rfl) rfl ?_
        refine a_iload_1 rfl rfl ?_
        refine a_iald rfl rfl (Or.inl rfl) rfl (by omega) (by decide) ?_
        refine a_as (y := A 2) (congrFun Q.1 2) ?_
        refine a_goto rfl rfl ?_
        exact a_iret rfl rfl
    | 3, _ =>
      refine ⟨A 3, ?_, ?_⟩
      · show avA _ 180 0 [.ref 7, .int (nI 3)] [] _ _
        refine a_iload_1 rfl rfl ?_
        refine a_tabIn rfl (by decide) rfl rfl ?_
        refine a_aload_0 rfl rfl ?_
        refine a_getr rfl rfl rfl (fun _ _ _ => rfl) rfl ?_
        refine a_geti rfl rfl rfl (fun _ _ _ => rfl) ?_
        refine a_as (y := A 3) e3 ?_
        exact a_iret rfl rfl
      · show avA _ 322 0 [.ref 81, .int (nI 3)] [] _ _
        refine a_iload_1 rfl rfl ?_
        refine a_iconst (v := (nI 0)) rfl rfl rfl ?_
        refine a_bipush (v := (nI 7)) rfl rfl rfl ?_
        refine a_statI rfl rfl (r_isIn0 _ _ _ (by omega) (by omega)) (Nat.le_of_ble_eq_true rfl) ⟨rfl, rfl, rfl⟩ rfl rfl rfl (Nat.le_of_ble_eq_true rfl) rfl ?_
        refine a_ifb_eq rfl rfl rfl (fun c_7 => by first | exact absurd c_7 (not_not_intro (by decide)) | exact absurd (not_not_intro (by decide)) c_7) (fun _ => ?_)
        refine a_aload_0 rfl rfl ?_
        refine a_getr rfl rfl rfl (fun _ _ _ => rfl) rfl ?_
        refine a_iload_1 rfl rfl ?_
        refine a_iald rfl rfl (Or.inl rfl) rfl (by omega) (by decide) ?_
        refine a_as (y := A 3) (congrFun Q.1 3) ?_
        refine a_goto rfl rfl ?_
        exact a_iret rfl rfl
    | 4, _ =>
      refine ⟨A 4, ?_, ?_⟩
      · show avA _ 180 0 [.ref 7, .int (nI 4)] [] _ _
        refine a_iload_1 rfl rfl ?_
        refine a_tabIn rfl (by decide) rfl rfl ?_
        refine a_aload_0 rfl rfl ?_
        refine a_getr rfl rfl rfl (fun _ _ _ => rfl) rfl ?_
        refine a_getr rfl rfl rfl (fun _ _ _ => rfl) rfl ?_
        refine a_geti rfl rfl rfl (fun _ _ _ => rfl) ?_
        refine a_as (y := A 4) q1.1 ?_
        exact a_iret rfl rfl
      · show avA _ 322 0 [.ref 81, .int (nI 4)] [] _ _
        refine a_iload_1 rfl rfl ?_
        refine a_iconst (v := (nI 0)) rfl rfl rfl ?_
        refine a_bipush (v := (nI 7)) rfl rfl rfl ?_
        refine a_statI rfl rfl (r_isIn0 _ _ _ (by omega) (by omega)) (Nat.le_of_ble_eq_true rfl) ⟨rfl, rfl, rfl⟩ rfl rfl rfl (Nat.le_of_ble_eq_true rfl) rfl ?_
        refine a_ifb_eq rfl rfl rfl (fun c_7 => by first | exact absurd c_7 (not_not_intro (by decide)) | exact absurd (not_not_intro (by decide)) c_7) (fun _ => ?_)
        refine a_aload_0 rfl rfl ?_
        refine a_getr rfl rfl rfl (fun _ _ _ => rfl) rfl ?_
        refine a_iload_1 rfl rfl ?_
        refine a_iald rfl rfl (Or.inl rfl) rfl (by omega) (by decide) ?_
        refine a_as (y := A 4) (congrFun Q.1 4) ?_
        refine a_goto rfl rfl ?_
        exact a_iret rfl rfl
    | 5, _ =>
      refine ⟨A 5, ?_, ?_⟩
      · show avA _ 180 0 [.ref 7, .int (nI 5)] [] _ _
        refine a_iload_1 rfl rfl ?_
        refine a_tabIn rfl (by decide) rfl rfl ?_
        refine a_aload_0 rfl rfl ?_
        refine a_getr rfl rfl rfl (fun _ _ _ => rfl) rfl ?_
        refine a_getr rfl rfl rfl (fun _ _ _ => rfl) rfl ?_
        refine a_geti rfl rfl rfl (fun _ _ _ => rfl) ?_
        refine a_as (y := A 5) q2.1 ?_
        exact a_iret rfl rfl
      · show avA _ 322 0 [.ref 81, .int (nI 5)] [] _ _
        refine a_iload_1 rfl rfl ?_
        refine a_iconst (v := (nI 0)) rfl rfl rfl ?_
        refine a_bipush (v := (nI 7)) rfl rfl rfl ?_
        refine a_statI rfl rfl (r_isIn0 _ _ _ (by omega) (by omega)) (Nat.le_of_ble_eq_true rfl) ⟨rfl, rfl, rfl⟩ rfl rfl rfl (Nat.le_of_ble_eq_true rfl) rfl ?_
        refine a_ifb_eq rfl rfl rfl (fun c_7 => by first | exact absurd c_7 (not_not_intro (by decide)) | exact absurd (not_not_intro (by decide)) c_7) (fun _ => ?_)
        refine a_aload_0 rfl rfl ?_
        refine a_getr rfl rfl rfl (fun _ _ _ => rfl) rfl ?_
        refine a_iload_1 rfl rfl ?_
        refine a_iald rfl rfl (Or.inl rfl) rfl (by omega) (by decide) ?_
        refine a_as (y := A 5) (congrFun Q.1 5) ?_
        refine a_goto rfl rfl ?_
        exact a_iret rfl rfl
    | 6, _ =>
      refine ⟨A 6, ?_, ?_⟩
      · show avA _ 180 0 [.ref 7, .int (nI 6)] [] _ _
        refine a_iload_1 rfl rfl ?_
        refine a_tabIn rfl (by decide) rfl rfl ?_
        refine a_aload_0 rfl rfl ?_
        refine a_getr rfl rfl rfl (fun _ _ _ => rfl) rfl ?_
        refine a_getr rfl rfl rfl (fun _ _ _ => rfl) rfl ?_
        refine a_geti rfl rfl rfl (fun _ _ _ => rfl) ?_
        refine a_as (y := A 6) q3.1 ?_
        exact a_iret rfl rfl
      · show avA _ 322 0 [.ref 81, .int (nI 6)] [] _ _
        refine a_iload_1 rfl rfl ?_
        refine a_iconst (v := (nI 0)) rfl rfl rfl ?_
        refine a_bipush (v := (nI 7)) rfl rfl rfl ?_
        refine a_statI rfl rfl (r_isIn0 _ _ _ (by omega) (by omega)) (Nat.le_of_ble_eq_true rfl) ⟨rfl, rfl, rfl⟩ rfl rfl rfl (Nat.le_of_ble_eq_true rfl) rfl ?_
        refine a_ifb_eq rfl rfl rfl (fun c_7 => by first | exact absurd c_7 (not_not_intro (by decide)) | exact absurd (not_not_intro (by decide)) c_7) (fun _ => ?_)
        refine a_aload_0 rfl rfl ?_
        refine a_getr rfl rfl rfl (fun _ _ _ => rfl) rfl ?_
        refine a_iload_1 rfl rfl ?_
        refine a_iald rfl rfl (Or.inl rfl) rfl (by omega) (by decide) ?_
        refine a_as (y := A 6) (congrFun Q.1 6) ?_
        refine a_goto rfl rfl ?_
        exact a_iret rfl rfl
    | 7, _ =>
      refine ⟨A 7, ?_, ?_⟩
      · show avA _ 180 0 [.ref 7, .int (nI 7)] [] _ _
        refine a_iload_1 rfl rfl ?_
        refine a_tabIn rfl (by decide) rfl rfl ?_
        refine a_aload_0 rfl rfl ?_
        refine a_getr rfl rfl rfl (fun _ _ _ => rfl) rfl ?_
        refine a_getr rfl rfl rfl (fun _ _ _ => rfl) rfl ?_
        refine a_geti rfl rfl rfl (fun _ _ _ => rfl) ?_
        refine a_as (y := A 7) q4.1 ?_
        exact a_iret rfl rfl
      · show avA _ 322 0 [.ref 81, .int (nI 7)] [] _ _
        refine a_iload_1 rfl rfl ?_
        refine a_iconst (v := (nI 0)) rfl rfl rfl ?_
        refine a_bipush (v := (nI 7)) rfl rfl rfl ?_
        refine a_statI rfl rfl (r_isIn0 _ _ _ (by omega) (by omega)) (Nat.le_of_ble_eq_true rfl) ⟨rfl, rfl, rfl⟩ rfl rfl rfl (Nat.le_of_ble_eq_true rfl) rfl ?_
        refine a_ifb_eq rfl rfl rfl (fun c_7 => by first | exact absurd c_7 (not_not_intro (by decide)) | exact absurd (not_not_intro (by decide)) c_7) (fun _ => ?_)
        refine a_aload_0 rfl rfl ?_
        refine a_getr rfl rfl rfl (fun _ _ _ => rfl) rfl ?_
        refine a_iload_1 rfl rfl ?_
        refine a_iald rfl rfl (Or.inl rfl) rfl (by omega) (by decide) ?_
        refine a_as (y := A 7) (congrFun Q.1 7) ?_
        refine a_goto rfl rfl ?_
        exact a_iret rfl rfl
    | 8, _ =>
      refine ⟨nI k, ?_, ?_⟩
      · show avA _ 180 0 [.ref 7, .int (nI 8)] [] _ _
        refine a_iload_1 rfl rfl ?_
        refine a_tabIn rfl (by decide) rfl rfl ?_
        refine a_aload_0 rfl rfl ?_
        refine a_getr rfl rfl rfl (fun _ _ _ => rfl) rfl ?_
        refine a_geti rfl rfl rfl (fun _ _ _ => rfl) ?_
        refine a_as (y := nI k) T.1 ?_
        exact a_iret rfl rfl
      · show avA _ 322 0 [.ref 81, .int (nI 8)] [] _ _
        refine a_iload_1 rfl rfl ?_
        refine a_iconst (v := (nI 0)) rfl rfl rfl ?_
        refine a_bipush (v := (nI 7)) rfl rfl rfl ?_
        refine a_statI rfl rfl (r_isIn0 _ _ _ (by omega) (by omega)) (Nat.le_of_ble_eq_true rfl) ⟨rfl, rfl, rfl⟩ rfl rfl rfl (Nat.le_of_ble_eq_true rfl) rfl ?_
        refine a_ifb_eq rfl rfl rfl (fun _ => ?_) (fun c_7 => by first | exact absurd (by decide) c_7 | exact absurd c_7 (by decide))
        refine a_iload_1 rfl rfl ?_
        refine a_bipush (v := (nI 8)) rfl rfl rfl ?_
        refine a_cmpN_ne rfl rfl rfl (by omega) (by omega) (fun c_22 => absurd c_22 (by decide)) (fun _ => ?_)
        refine a_aload_0 rfl rfl ?_
        refine a_geti rfl rfl rfl (fun _ _ _ => rfl) ?_
        refine a_as (y := nI k) P.1 ?_
        refine a_goto rfl rfl ?_
        exact a_iret rfl rfl
    | n + 9, hn => exact absurd hn (by omega)
  · refine ⟨-2, ?_, ?_⟩
    · show avA _ 180 0 [.ref 7, .int (w)] [] _ _
      refine a_iload_1 rfl rfl ?_
      refine a_tabOut rfl (by omega) rfl ?_
      refine a_bipush (v := (-2)) rfl rfl rfl ?_
      exact a_iret rfl rfl
    · have c8 : ¬ w = nI 8 := fun e => c (by rw [e]; decide)
      show avA _ 322 0 [.ref 81, .int (w)] [] _ _
      refine a_iload_1 rfl rfl ?_
      refine a_iconst (v := (nI 0)) rfl rfl rfl ?_
      refine a_bipush (v := (nI 7)) rfl rfl rfl ?_
      refine a_statI rfl rfl (r_isIn0 _ _ _ (by omega) (by omega)) (Nat.le_of_ble_eq_true rfl) ⟨rfl, rfl, rfl⟩ rfl rfl rfl (Nat.le_of_ble_eq_true rfl) rfl ?_
      refine a_ifb_eq rfl rfl rfl (fun _ => ?_) (fun c_7 => by first | exact absurd (fun z => c ⟨z.1, by have := z.2; omega⟩) c_7 | exact absurd c_7 (fun z => c ⟨z.1, by have := z.2; omega⟩))
      refine a_iload_1 rfl rfl ?_
      refine a_bipush (v := (nI 8)) rfl rfl rfl ?_
      refine a_cmp_ne rfl rfl rfl (fun _ => ?_) (fun c_22 => by first | exact absurd c8 c_22 | exact absurd c_22 c8)
      refine a_bipush (v := (-2)) rfl rfl rfl ?_
      exact a_iret rfl rfl
/-- what a feed lays down -/
def fdv (a b c d e : Int32) (j : Nat) : Int32 := if j < 4 then byt a j else if j < 8 then byt b (j - 4) else if j < 12 then byt c (j - 8) else if j < 16 then byt d (j - 12) else byt e (j - 16)
theorem fd5_lo {k i : Nat} {a b c d e : Int32} {F : Nat → Int32} (hi : i < k) : fd5 k a b c d e F i = F i := by
  unfold fd5
  rw [rw2_out (by omega), rw2_out (by omega), rw2_out (by omega), rw2_out (by omega), rw2_out (by omega)]
theorem fd5_at {k j : Nat} {a b c d e : Int32} {F : Nat → Int32} (hj : j < 20) : fd5 k a b c d e F (k + j) = fdv a b c d e j := by
  unfold fd5 fdv rw2
  by_cases c1 : j < 4
  · rw [if_neg (by omega), if_neg (by omega), if_neg (by omega), if_neg (by omega), if_pos (by omega), if_pos c1, show k + j - k = j by omega]
  · by_cases c2 : j < 8
    · rw [if_neg (by omega), if_neg (by omega), if_neg (by omega), if_pos (by omega), if_neg c1, if_pos c2, show k + j - (k + 4) = j - 4 by omega]
    · by_cases c3 : j < 12
      · rw [if_neg (by omega), if_neg (by omega), if_pos (by omega), if_neg c1, if_neg c2, if_pos c3, show k + j - (k + 8) = j - 8 by omega]
      · by_cases c4 : j < 16
        · rw [if_neg (by omega), if_pos (by omega), if_neg c1, if_neg c2, if_neg c3, if_pos c4, show k + j - (k + 12) = j - 12 by omega]
        · rw [if_pos (by omega), if_neg c1, if_neg c2, if_neg c3, if_neg c4, show k + j - (k + 16) = j - 16 by omega]
theorem fdv_b (a b c d e : Int32) (j : Nat) : ∃ q, q < 256 ∧ fdv a b c d e j = nI q := by
  have z : ∀ v j, ∃ q, q < 256 ∧ byt v j = nI q := fun v j => by
    obtain ⟨q, h1, h2⟩ := and_low (v >>> (nI (24 - 8 * j) &&& 31)) 255
    exact ⟨q, by omega, h2⟩
  unfold fdv
  split
  · exact z _ _
  split
  · exact z _ _
  split
  · exact z _ _
  split
  · exact z _ _
  · exact z _ _
theorem fd_b {k : Nat} {b : Nat → Nat} (a1 a2 a3 a4 a5 : Int32) (hb : ∀ i, i < k → b i < 256) : ∃ b' : Nat → Nat, ∀ F : Nat → Int32, (∀ i, i < k → F i = nI (b i)) → ∀ i, i < k + 20 → fd5 k a1 a2 a3 a4 a5 F i = nI (b' i) ∧ b' i < 256 := by
  refine ⟨fun i => if i < k then b i else (fdv a1 a2 a3 a4 a5 (i - k)).toInt.toNat, fun F hF i hi => ?_⟩
  dsimp only
  by_cases c : i < k
  · rw [if_pos c, fd5_lo c]
    exact ⟨hF i c, hb i c⟩
  · rw [if_neg c]
    obtain ⟨j, rfl⟩ := Nat.exists_eq_add_of_le (show k ≤ i by omega)
    rw [fd5_at (by omega), show k + j - k = j by omega]
    obtain ⟨q, h1, h2⟩ := fdv_b a1 a2 a3 a4 a5 j
    rw [h2, nI_toInt (by omega)]
    exact ⟨rfl, by omega⟩
/-- a change of the tape on both sides -/
theorem GG_tape {A B : Nat → Int32} {TX : Nat → Txt} {R t : Nat} {lt : Option Nat} {b b' : Nat → Nat} {k k' : Nat} {h h' : Nat → Nat → Int32} (G : GG A B TX R t lt b k h) (F : CF [68, 69, 81, 85] h h') (e81 : ∀ j, j ≠ 4 → h' 81 j = h 81 j) (T : TP b' k' h') (P : RP b' k' h') : GG A B TX R t lt b' k' h' := by
  obtain ⟨C, Q, K, Z, _, _, l3, f1, f2⟩ := G
  refine ⟨CI_cf C (S := [68, 69, 81, 85]) rfl rfl rfl rfl F, ⟨(F 82 rfl).trans Q.1, (F 83 rfl).trans Q.2.1, (e81 25 (by omega)).trans Q.2.2.1, ?_⟩, KI_e K (fun p hp => F p (by simp; omega)), LZ_e Z (F 79 rfl), T, P, lw3_e l3 (F 72 rfl), ?_, ?_⟩
  · rw [F 84 rfl]; exact Q.2.2.2
  · rw [congrFun (F 72 rfl) 3, e81 5 (by omega)]; exact f1
  · rw [congrFun (F 72 rfl) 4, e81 6 (by omega)]; exact f2
theorem st_feed (a1 a2 a3 a4 a5 : Int32) : stG 0 1 33 [.ref 7, .int a1, .int a2, .int a3, .int a4, .int a5] 1 193 [.ref 81, .int a1, .int a2, .int a3, .int a4, .int a5] := by
  intro L t lt rt rp sw h gl R A B TX b k G hR
  have T := G.2.2.2.2.1
  have P := G.2.2.2.2.2.1
  by_cases c : k + 20 ≤ 300
  · obtain ⟨b', hb⟩ := fd_b (k := k) (b := b) a1 a2 a3 a4 a5 (fun i hi => (T.2.2 i hi).2)
    have c1 := c_feed_T (L := L) (t := t) (lt := lt) (rt := rt) (rp := rp) (sw := sw) (h := h) (gl := gl) a1 a2 a3 a4 a5 k c T.1
    have c2 := r_feed_T (L := L) (t := t) (lt := lt) (rt := rt) (rp := rp) (sw := sw) (h := mvPut (va_up h 69 (fd5 k a1 a2 a3 a4 a5 (h 69))) 68 1 (nI (k + 20))) (gl := gl) a1 a2 a3 a4 a5 k c P.1
    refine ⟨nI (k + 20), t, lt, rt, rp, sw, _, gl, _, gl, R, A, B, TX, b', k + 20, c1, c2, rfl, rfl, GG_tape G ?_ (fun j hj => ?_) ⟨rfl, by omega, fun i hi => ?_⟩ ⟨rfl, by omega, fun i hi => ?_⟩, by omega⟩
    · exact CF_put (CF_up (CF_put (CF_up CF_refl rfl) rfl) rfl) rfl
    · exact va_up_ne _ _ hj
    · exact hb (h 69) (fun i hi => (T.2.2 i hi).1) i hi
    · exact hb (h 85) (fun i hi => (P.2.2 i hi).1) i hi
  · exact ⟨-1, t, lt, rt, rp, sw, h, gl, h, gl, R, A, B, TX, b, k, c_feed_F a1 a2 a3 a4 a5 k T.2.1 c T.1, r_feed_F a1 a2 a3 a4 a5 k P.2.1 c P.1, rfl, rfl, G, by omega⟩
theorem st_end (n : Int32) : stG 0 0 35 [.ref 7, .int n] 1 195 [.ref 81, .int n] := by
  intro L t lt rt rp sw h gl R A B TX b k G hR
  have T := G.2.2.2.2.1
  have P := G.2.2.2.2.2.1
  have k3 := T.2.1
  by_cases c : 0 ≤ n.toInt ∧ n.toInt ≤ k
  · have c1 := c_end_T (L := L) (t := t) (lt := lt) (rt := rt) (rp := rp) (sw := sw) (h := h) (gl := gl) k T.2.1 T.1 n c
    have c2 := r_end_T (L := L) (t := t) (lt := lt) (rt := rt) (rp := rp) (sw := sw) (h := mvPut h 68 1 n) (gl := gl) k P.2.1 P.1 n c
    have en : n = nI n.toInt.toNat := int_nI c.1
    refine ⟨n, t, lt, rt, rp, sw, _, gl, _, gl, R, A, B, TX, b, n.toInt.toNat, c1, c2, rfl, rfl, GG_tape G ?_ (fun j hj => ?_) ⟨en, by omega, fun i hi => ?_⟩ ⟨en, by omega, fun i hi => ?_⟩, by omega⟩
    · exact CF_put (CF_put CF_refl rfl) rfl
    · exact va_up_ne _ _ hj
    · exact T.2.2 i (by omega)
    · exact P.2.2 i (by omega)
  · exact ⟨-1, t, lt, rt, rp, sw, h, gl, h, gl, R, A, B, TX, b, k, c_end_F k T.2.1 T.1 n c, r_end_F k P.2.1 P.1 n c, rfl, rfl, G, by omega⟩
