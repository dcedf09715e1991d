/-! THE START: what holds before the first call; the law's run -/
def A0 : Nat → Int32 := rw2 68 30 (fun _ => nI 5) (va_up (va_up (va_up (fun _ => 0) 11 (nI 197)) 2 (-1)) 9 (-1))
def B0 : Nat → Int32 := rw1 1726 A0 (fun _ => 0)
section RF
variable {L : Nat} {h : Nat → Nat → Int32} {gl : Nat → Nat → Int64}
theorem l_r5 {r : Option Value × mvSt} (F : Nat → Int32) (A : avA 1 181 203 [.ref 81, .int (nI 30)] [] (sX L 0 none none none false (va_up h 82 (rw2 68 30 (fun _ => nI 5) F)) gl) r) (m : Nat) : ∀ i, i + m = 30 → avA 1 181 181 [.ref 81, .int (nI i)] [] (sX L 0 none none none false (va_up h 82 (rw2 68 i (fun _ => nI 5) F)) gl) r := by
  induction m with
  | zero =>
    intro i hi
    obtain rfl : i = 30 := by omega
    refine a_iload_1 rfl rfl ?_
    refine a_bipush (v := (nI 30)) rfl rfl rfl ?_
    refine a_cmpN_ge rfl rfl rfl (by omega) (by omega) (fun _ => ?_) (fun c_184 => absurd c_184 (by decide))
    exact A
  | succ m ih =>
    intro i hi
    have I := ih (i + 1) (by omega)
    refine a_iload_1 rfl rfl ?_
    refine a_bipush (v := (nI 30)) rfl rfl rfl ?_
    refine a_cmpN_ge rfl rfl rfl (by omega) (by omega) (fun c_184 => False.elim (by omega)) (fun _ => ?_)
    refine a_aload_0 rfl rfl ?_
    refine a_getr rfl rfl rfl (fun _ _ _ => rfl) rfl ?_
    refine a_bipush (v := (nI 68)) rfl rfl rfl ?_
    refine a_iload_1 rfl rfl ?_
    refine a_iaddN rfl rfl ?_
    refine a_iconst (v := (nI 5)) rfl rfl rfl ?_
    refine a_iast rfl rfl rfl rfl (by omega) (by decide) ?_
    rw [up_put, rw2_s _ _ _ _ rfl]
    refine a_iinc_1 rfl rfl (nI_inc _ _) rfl ?_
    refine a_goto rfl rfl ?_
    exact I
theorem e_refTail (h82 : h 82 = fun _ => 0) : avA 1 181 154 [.ref 81, mvU] [] (sX L 0 none none none false h gl) (none, sX L 0 none none none false (va_up (va_up h 82 A0) 83 (rw1 1726 A0 (h 83))) gl) := by
  have C : avE 0 182 [.ref 82, .ref 83] (sX L 0 none none none false (va_up h 82 A0) gl) (none, sX L 0 none none none false (va_up (va_up h 82 A0) 83 (rw1 1726 A0 (h 83))) gl) := by
    have Z := l_rcopy (L := L) (t := 0) (lt := none) (rt := none) (rp := none) (sw := false) (h := va_up h 82 A0) (gl := gl) 82 83 A0 (h 83) rfl rfl (fun X => Or.inl rfl) (by decide) 1726 0 rfl
    rw [rw1_0, show va_up (va_up h 82 A0) 83 (h 83) = va_up h 82 A0 from up_id (va_up h 82 A0) 83] at Z
    show avA _ 182 0 [.ref 82, .ref 83, mvU] [] _ _
    refine a_iconst (v := (nI 0)) rfl rfl rfl ?_
    refine a_istore_2 rfl rfl rfl ?_
    exact Z
  have e : mvPut (mvPut (mvPut h 82 11 (nI 197)) 82 2 (-1)) 82 9 (-1) = va_up h 82 (rw2 68 0 (fun _ => nI 5) (va_up (va_up (va_up (fun _ => 0) 11 (nI 197)) 2 (-1)) 9 (-1))) := by
    show mvPut (mvPut (va_up h 82 (va_up (h 82) 11 (nI 197))) 82 2 (-1)) 82 9 (-1) = _
    rw [up_put, up_put, h82, rw2_0]
  have T : avA 1 181 203 [.ref 81, .int (nI 30)] [] (sX L 0 none none none false (va_up h 82 A0) gl) (none, sX L 0 none none none false (va_up (va_up h 82 A0) 83 (rw1 1726 A0 (h 83))) gl) := by
    refine a_aload_0 rfl rfl ?_
    refine a_getr rfl rfl rfl (fun _ _ _ => rfl) rfl ?_
    refine a_aload_0 rfl rfl ?_
    refine a_getr rfl rfl rfl (fun _ _ _ => rfl) rfl ?_
    refine a_stat0 rfl rfl (C) (Nat.le_of_ble_eq_true rfl) ⟨rfl, rfl, rfl⟩ rfl rfl rfl (Nat.le_of_ble_eq_true rfl) rfl ?_
    exact a_vret rfl rfl
  refine a_aload_0 rfl rfl ?_
  refine a_getr rfl rfl rfl (fun _ _ _ => rfl) rfl ?_
  refine a_bipush (v := (nI 11)) rfl rfl rfl ?_
  refine a_sipush (v := (nI 197)) rfl rfl rfl ?_
  refine a_iast rfl rfl rfl rfl (by omega) (by decide) ?_
  refine a_aload_0 rfl rfl ?_
  refine a_getr rfl rfl rfl (fun _ _ _ => rfl) rfl ?_
  refine a_iconst (v := (nI 2)) rfl rfl rfl ?_
  refine a_iconst (v := (-1)) rfl rfl rfl ?_
  refine a_iast rfl rfl rfl rfl (by omega) (by decide) ?_
  refine a_aload_0 rfl rfl ?_
  refine a_getr rfl rfl rfl (fun _ _ _ => rfl) rfl ?_
  refine a_bipush (v := (nI 9)) rfl rfl rfl ?_
  refine a_iconst (v := (-1)) rfl rfl rfl ?_
  refine a_iast rfl rfl rfl rfl (by omega) (by decide) ?_
  refine a_iconst (v := (nI 0)) rfl rfl rfl ?_
  refine a_istore_1 rfl rfl rfl ?_
  rw [e]
  exact l_r5 _ T 30 0 rfl
end RF
theorem A0_hi {i : Nat} (h : 98 ≤ i) : A0 i = 0 := by
  unfold A0
  rw [rw2_out (by omega), va_up_ne _ _ (by omega), va_up_ne _ _ (by omega), va_up_ne _ _ (by omega)]
theorem A0_k {c : Nat} (h : c < 30) : A0 (38 + c) = 0 := by
  unfold A0
  rw [rw2_out (by omega), va_up_ne _ _ (by omega), va_up_ne _ _ (by omega), va_up_ne _ _ (by omega)]
theorem A0_h {c : Nat} (h : c < 30) : A0 (68 + c) = nI 5 := by
  unfold A0
  rw [rw2_in h]
theorem bnd_0 {i : Nat} (h : 98 ≤ i) : (bnd i).1 ≤ 0 ∧ 0 ≤ (bnd i).2 := by
  unfold bnd
  rw [if_neg (by omega)]
  repeat' split
  all_goals first
    | decide
    | (unfold stB
       repeat' split
       all_goals decide)
theorem A0_lo : ∀ i, i < 98 → (bnd i).1 ≤ (A0 i).toInt ∧ (A0 i).toInt ≤ (bnd i).2 := by decide +kernel
theorem g0A : gN A0 0 = 0 ∧ gN A0 1 = 0 ∧ gN A0 3 = 0 ∧ gN A0 4 = 0 ∧ gN A0 5 = 0 ∧ gN A0 6 = 0 ∧ gN A0 7 = 0 ∧ gN A0 12 = 0 := by decide +kernel
theorem ok0 : okA A0 := by
  obtain ⟨g0, g1, g3, _⟩ := g0A
  refine ⟨fun i hi => ?_, ⟨fun b h1 => ?_, fun k b h1 => ?_, fun k h1 => ?_⟩, by decide +kernel⟩
  · by_cases c : i < 98
    · exact A0_lo i c
    · show (bnd i).1 ≤ (A0 i).toInt ∧ (A0 i).toInt ≤ (bnd i).2
      rw [A0_hi (by omega)]
      exact bnd_0 (by omega)
  · rw [g3] at h1; omega
  · rw [g3] at h1; omega
  · rw [g3] at h1; omega
/-- an empty holding -/
theorem HR_0 {o : Nat} {h : Nat → Nat → Int32} (a4 : h o 4 = nI 0) (a5 : h o 5 = nI 0) (a11 : h o 11 = -1) (a12 : h o 12 = nI 0) (r1 : h (o + 1) = fun _ => 0) (r2 : h (o + 2) = fun j => if 0 ≤ j ∧ j < 30 then nI 5 else 0) (m0 : h (o + 3) 0 = -1) (m1 : h (o + 3) 1 = nI 0) (m2 : h (o + 3) 2 = nI 0) (m3 : h (o + 3) 3 = nI 197) (m4 : h (o + 3) 4 = nI 0) (m9 : h (o + 3) 9 = nI 0) (m10 : h (o + 3) 10 = nI 0) (p1 : h (o + 9) 2 = nI 0) (p2 : h (o + 12) 2 = nI 0) (p3 : h (o + 15) 2 = nI 0) (p4 : h (o + 18) 2 = nI 0) (r21 : h (o + 21) = fun _ => 0) : HR o A0 h := by
  obtain ⟨g0, g1, g3, g4, g5, g6, g7, g12⟩ := g0A
  refine ⟨fun c hc => ⟨?_, ?_⟩, ⟨m0, m1, m2, m3, m4, fun b hb => ?_⟩, ⟨0, 0, by omega, by omega, m9, m10, fun _ => ⟨g12, fun i hi => absurd hi (by omega)⟩⟩, ⟨0, 0, by omega, by omega, a4, a5, g3, fun k hk => absurd hk (by omega)⟩, ⟨⟨p1, fun i hi => ?_⟩, ⟨p2, fun i hi => ?_⟩, ⟨p3, fun i hi => ?_⟩, ⟨p4, fun i hi => ?_⟩⟩, fun m hm => ?_, a11, a12⟩
  · rw [r1, A0_k hc]
  · rw [r2, A0_h hc]
    exact if_pos ⟨Nat.zero_le _, hc⟩
  · rw [g0] at hb; omega
  · rw [g4] at hi; omega
  · rw [g5] at hi; omega
  · rw [g6] at hi; omega
  · rw [g7] at hi; omega
  · rw [r21, A0_hi (by omega)]
section GI
variable {L : Nat} {xs : Nat → Int32}
def h0 (L : Nat) (xs : Nat → Int32) : Nat → Nat → Int32 := va_up (va_up (y0_46 L xs).2.1 82 A0) 83 (rw1 1726 A0 ((y0_46 L xs).2.1 83))
theorem h0_ne {p : Nat} (h1 : p ≠ 82) (h2 : p ≠ 83) : h0 L xs p = (y0_46 L xs).2.1 p := (va_up_ne _ _ h2).trans (va_up_ne _ _ h1)
theorem h0_r {p : Nat} {s : Nat × Nat} {R : Nat → Option Nat} {F : Nat → Int32} (V : Vl (y0_46 L xs) p s R F) (h1 : p ≠ 82) (h2 : p ≠ 83) : h0 L xs p = F := (h0_ne h1 h2).trans V.2.2
theorem ws_ok : ∀ j, j < 32 → wFt (fun _ => (0 : Int32)) 151 j = nI (WS j) := by decide +kernel
theorem fr_ok : nI 1073741823 = bsI 30 (frA A0) ∧ (0 : Int32) = bsI 30 (fun _ => false) := by decide +kernel
theorem GG0 : GG A0 B0 (fun _ => X0) 1 0 none (fun _ => 0) 0 (h0 L xs) := by
  have q : ∀ {p : Nat} {s : Nat × Nat} {R : Nat → Option Nat} {F : Nat → Int32}, Vl (y0_46 L xs) p s R F → p ≠ 82 → p ≠ 83 → ∀ k, h0 L xs p k = F k := fun V h1 h2 k => congrFun (h0_r V h1 h2) k
  have like : ∀ i, i < 1726 → B0 i = A0 i := fun i hi => rw1_lt hi
  obtain ⟨g0, g1, _⟩ := g0A
  have gB : gN B0 1 = 0 := (gN_c (like 1 (by omega))).trans g1
  have e82 : h0 L xs 82 = A0 := (va_up_ne _ _ (by decide)).trans (va_up_self _ _ _)
  have e83 : h0 L xs 83 = B0 := by
    refine (va_up_self _ _ _).trans ?_
    rw [(v0_83 (L := L) (xs := xs)).2.2]
    rfl
  have H11 : HR 11 A0 (h0 L xs) := HR_0 ((q v0_11 (by decide) (by decide) 4).trans rfl) ((q v0_11 (by decide) (by decide) 5).trans rfl) ((q v0_11 (by decide) (by decide) 11).trans rfl) ((q v0_11 (by decide) (by decide) 12).trans rfl) (h0_r v0_12 (by decide) (by decide)) (h0_r v0_13 (by decide) (by decide)) ((q v0_14 (by decide) (by decide) 0).trans rfl) ((q v0_14 (by decide) (by decide) 1).trans rfl) ((q v0_14 (by decide) (by decide) 2).trans rfl) ((q v0_14 (by decide) (by decide) 3).trans rfl) ((q v0_14 (by decide) (by decide) 4).trans rfl) ((q v0_14 (by decide) (by decide) 9).trans rfl) ((q v0_14 (by decide) (by decide) 10).trans rfl) ((q v0_20 (by decide) (by decide) 2).trans rfl) ((q v0_23 (by decide) (by decide) 2).trans rfl) ((q v0_26 (by decide) (by decide) 2).trans rfl) ((q v0_29 (by decide) (by decide) 2).trans rfl) (h0_r v0_32 (by decide) (by decide))
  have H40 : HR 40 A0 (h0 L xs) := HR_0 ((q v0_40 (by decide) (by decide) 4).trans rfl) ((q v0_40 (by decide) (by decide) 5).trans rfl) ((q v0_40 (by decide) (by decide) 11).trans rfl) ((q v0_40 (by decide) (by decide) 12).trans rfl) (h0_r v0_41 (by decide) (by decide)) (h0_r v0_42 (by decide) (by decide)) ((q v0_43 (by decide) (by decide) 0).trans rfl) ((q v0_43 (by decide) (by decide) 1).trans rfl) ((q v0_43 (by decide) (by decide) 2).trans rfl) ((q v0_43 (by decide) (by decide) 3).trans rfl) ((q v0_43 (by decide) (by decide) 4).trans rfl) ((q v0_43 (by decide) (by decide) 9).trans rfl) ((q v0_43 (by decide) (by decide) 10).trans rfl) ((q v0_49 (by decide) (by decide) 2).trans rfl) ((q v0_52 (by decide) (by decide) 2).trans rfl) ((q v0_55 (by decide) (by decide) 2).trans rfl) ((q v0_58 (by decide) (by decide) 2).trans rfl) (h0_r v0_61 (by decide) (by decide))
  refine ⟨⟨ok0, okA_like ok0 like, by omega, H11, HR_like ok0.1 H40 like, fun x hx => absurd hx (by omega), ?_⟩, ⟨e82, e83, ?_, fun x hx => absurd hx (by omega)⟩, ?_, ?_, ?_, ?_, ?_, ?_, ?_⟩
  · refine ⟨none, ⟨-1, 0, 0, ⟨?_, Or.inl rfl, ?_, ?_, ?_, by omega, by omega, by omega, by omega, ?_⟩, fun k hk => ⟨0, ?_, by decide, fun e => absurd e (by decide)⟩, fun z e => absurd e (by simp)⟩, fun _ => rfl, fun x hx => absurd hx (by omega)⟩
    · exact (q v0_8 (by decide) (by decide) 5).trans rfl
    · exact (q v0_8 (by decide) (by decide) 6).trans rfl
    · exact (q v0_8 (by decide) (by decide) 7).trans rfl
    · exact (q v0_8 (by decide) (by decide) 9).trans rfl
    · refine ⟨((q v0_9 (by decide) (by decide) 0).trans rfl).trans fr_ok.1, fun _ => false, ((q v0_9 (by decide) (by decide) 1).trans rfl).trans fr_ok.2, fun f _ e => absurd e (by simp)⟩
    · exact (q v0_39 (by decide) (by decide) k).trans rfl
  · exact (q v0_81 (by decide) (by decide) 25).trans rfl
  · refine ⟨(h0_r v0_1 (by decide) (by decide)).trans rfl, (q v0_2 (by decide) (by decide) 1).trans rfl, (h0_r v0_3 (by decide) (by decide)).trans rfl, (q v0_4 (by decide) (by decide) 1).trans rfl, (h0_r v0_5 (by decide) (by decide)).trans rfl, fun j hj => (q v0_71 (by decide) (by decide) j).trans (ws_ok j hj)⟩
  · exact ⟨fun m _ => (q v0_79 (by decide) (by decide) _).trans rfl, fun l _ => (q v0_79 (by decide) (by decide) _).trans rfl⟩
  · exact ⟨(q v0_68 (by decide) (by decide) 1).trans rfl, by omega, fun i hi => absurd hi (Nat.not_lt_zero _)⟩
  · exact ⟨(q v0_81 (by decide) (by decide) 4).trans rfl, by omega, fun i hi => absurd hi (Nat.not_lt_zero _)⟩
  · exact ⟨0, by omega, (q v0_72 (by decide) (by decide) 2).trans rfl⟩
  · rw [q v0_72 (by decide) (by decide) 3, q v0_81 (by decide) (by decide) 5]; rfl
  · rw [q v0_72 (by decide) (by decide) 4, q v0_81 (by decide) (by decide) 6]; rfl
theorem law_run {L : Nat} (xs : Nat → Int32) (hL : L ≤ 3072) : ∃ n d σ', d ≤ 800 ∧ mvRun n d 0 0 (mvLs 4 [.ref 0]) [] (msSt L xs) = some (some (.int 1), σ') ∧ σ'.1.1 - 7 ≤ 600000 ∧ σ'.1.2.1 ≤ 7302250 := by
  have hx0 : h0 L xs 0 = xs := (h0_r v0_0 (by decide) (by decide)).trans rfl
  obtain ⟨σ', W, bd⟩ := l_law hL xs 512 0 0 none none none false (h0 L xs) (y0_46 L xs).2.2.1 1 A0 B0 (fun _ => X0) (fun _ => 0) 0 (by omega) (by omega) (by omega) GG0 hx0
  have G7 := g0_m1 (L := L) (xs := xs)
  have GB0 : Gr (iMoo (s0A L xs)) 81 7 11 := g_iMoo G7 (by decide)
  have GB := gr_nw (t := 12) (z := 33) GB0
  have T : avA 1 181 154 [.ref 81, mvU] [] (iRef (mkS (iMoo (s0A L xs)) 12 33)) (none, sX L 0 none none none false (h0 L xs) (y0_46 L xs).2.2.1) := by
    rw [y0_eq, y0_sX]
    exact e_refTail ((v0_82 (L := L) (xs := xs)).2.2)
  have A : avA 84 0 0 [.ref 0, mvU, mvU, mvU] [] (msSt L xs) (some (.int (nI 1)), σ') := by
    refine c_new (z := 11) rfl rfl rfl rfl ?_
    refine a_dup rfl rfl rfl ?_
    refine a_spec0 rfl rfl (e_iMoo G7 t0A) (by decide) ⟨rfl, rfl, rfl, rfl⟩ rfl rfl rfl (Nat.le_of_ble_eq_true rfl) rfl rfl ?_
    refine a_astore_1 rfl rfl rfl ?_
    refine c_new (z := 33) rfl rfl rfl GB0.1 ?_
    refine a_dup rfl rfl rfl ?_
    refine a_spec0 rfl rfl (e_iRef GB T) (by decide) ⟨rfl, rfl, rfl, rfl⟩ rfl rfl rfl (Nat.le_of_ble_eq_true rfl) GB.2.1 rfl ?_
    refine a_astore_2 rfl rfl rfl ?_
    refine a_iconst (v := nI 0) rfl rfl rfl ?_
    refine a_istore_3 rfl rfl rfl ?_
    exact W
  obtain ⟨N, hN⟩ := A
  exact ⟨N, 84, σ', by omega, hN N (Nat.le_refl _), bd.1, bd.2⟩
end GI
