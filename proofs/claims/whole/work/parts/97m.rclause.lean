/-! CLAUSES: the reference -/
def sV2 (c : Nat) : Int32 := if srt c = 10 then -1 else nI (srt c)
def lwI (X : Txt) (w : CdL) (T : Nat → Int32) (x s : Nat) : Prop := match X.1 s with
  | none => ∀ q, q < X.2.1 → (X.2.2 q).1 ≠ s
  | some f => ∃ (q : Nat) (seg w0 w1 : CdL), q < X.2.1 ∧ (X.2.2 q).1 = s ∧ (∀ q', q' < q → (X.2.2 q').1 ≠ s) ∧ w = w1 ++ (seg ++ w0) ∧ Mn s seg f ∧ T (681 * x + 1 + 3 * q + 1) = nI w0.length ∧ T (681 * x + 1 + 3 * q + 2) = nI (w0.length + seg.length)
/-- the reference stands at token i of a text that is X so far -/
def RTx (b : Nat → Nat) (k n x : Nat) (X : Txt) (i : Nat) (w : CdL) (h : Nat → Nat → Int32) (gl : Nat → Nat → Int64) : Prop := TS b k n i h gl ∧ (h 81 12 = nI (681 * x) ∧ x < 4) ∧ h 81 13 = nI w.length ∧ cR (681 * x + 73) w (h 84) ∧ w.length ≤ i ∧ (X.2.1 ≤ 24 ∧ ∀ q, q < X.2.1 → (X.2.2 q).1 < 10) ∧ (∀ s, s < 3 → tb (h 81 19) s = (X.1 s).isSome) ∧ clsR X.2 (h 84) x ∧ ∀ s, s < 3 → lwI X w (h 84) x s
theorem RT_add {b : Nat → Nat} {k n x i j s a c : Nat} {X : Txt} {w seg : CdL} {fo : Option (E1 → Int)} {h h' : Nat → Nat → Int32} {gl gl' : Nat → Nat → Int64} (H : RTx b k n x X i w h gl) (hn : X.2.1 < 24) (hs : s < 10) (hf : (s < 3 ∧ X.1 s = none ∧ ∃ f, fo = some f ∧ Mn s seg f) ∨ (3 ≤ s ∧ fo = none)) (T' : TS b k n j h' gl') (e12 : h' 81 12 = nI (681 * x)) (e13 : h' 81 13 = nI (seg ++ w).length) (ec : cR (681 * x + 73) (seg ++ w) (h' 84)) (el : (seg ++ w).length ≤ j) (eo : ∀ q, q < 3 → tb (h' 81 19) q = (tb (h 81 19) q || decide (q = s))) (e84 : ∀ q, q < 681 * x + 73 → q ≠ 681 * x → q ≠ 681 * x + 1 + 3 * X.2.1 → q ≠ 681 * x + 1 + 3 * X.2.1 + 1 → q ≠ 681 * x + 1 + 3 * X.2.1 + 2 → h' 84 q = h 84 q) (et : h' 84 (681 * x) = nI (X.2.1 + 1)) (es : h' 84 (681 * x + 1 + 3 * X.2.1) = nI s) (e1 : has1 s → h' 84 (681 * x + 1 + 3 * X.2.1 + 1) = nI a) (e2 : has2 s → h' 84 (681 * x + 1 + 3 * X.2.1 + 2) = nI c) (el1 : s < 3 → h' 84 (681 * x + 1 + 3 * X.2.1 + 1) = nI w.length ∧ h' 84 (681 * x + 1 + 3 * X.2.1 + 2) = nI (w.length + seg.length)) : RTx b k n x (addX X s a c fo) j (seg ++ w) h' gl' := by
  obtain ⟨a1, ⟨a2, a3⟩, a4, a5, a6, ⟨a7, a8⟩, a9, ⟨a10, a11⟩, a12⟩ := H
  have ent : ∀ q, (addX X s a c fo).2.2 q = if q = X.2.1 then (s, nI a, nI c) else X.2.2 q := fun q => rfl
  have fst : ∀ q, (addX X s a c fo).1 q = if q = s then fo else X.1 q := fun q => rfl
  refine ⟨T', ⟨e12, a3⟩, e13, ec, el, ⟨by show X.2.1 + 1 ≤ 24; omega, fun q hq => ?_⟩, fun q hq => ?_, ⟨et, fun q hq => ?_⟩, fun q hq => ?_⟩
  · have hq' : q < X.2.1 + 1 := hq
    rw [ent]
    by_cases e : q = X.2.1
    · rw [if_pos e]; exact hs
    · rw [if_neg e]; exact a8 q (by omega)
  · rw [eo q hq, a9 q hq, fst]
    by_cases e : q = s
    · rw [if_pos e]
      rcases hf with ⟨_, _, f, rfl, _⟩ | ⟨h3, _⟩
      · simp [e]
      · omega
    · rw [if_neg e]; simp [e]
  · have hq' : q < X.2.1 + 1 := hq
    rw [ent]
    by_cases e : q = X.2.1
    · rw [if_pos e, e]; exact ⟨es, e1, e2⟩
    · rw [if_neg e, e84 _ (by omega) (by omega) (by omega) (by omega) (by omega), e84 _ (by omega) (by omega) (by omega) (by omega) (by omega), e84 _ (by omega) (by omega) (by omega) (by omega) (by omega)]
      exact a11 q (by omega)
  · have old := a12 q hq
    unfold lwI at old ⊢
    rw [fst]
    by_cases e : q = s
    · subst e
      rw [if_pos rfl]
      rcases hf with ⟨_, hX, f, rfl, M⟩ | ⟨h3, _⟩
      · rw [hX] at old
        refine ⟨X.2.1, seg, w, [], by show X.2.1 < X.2.1 + 1; omega, by rw [ent, if_pos rfl], fun q' hq' => ?_, rfl, M, (el1 hq).1, (el1 hq).2⟩
        rw [ent, if_neg (by omega)]
        exact old q' hq'
      · omega
    · rw [if_neg e]
      cases hX : X.1 q with
      | none =>
        rw [hX] at old
        intro q' hq'
        have hq'' : q' < X.2.1 + 1 := hq'
        rw [ent]
        by_cases e' : q' = X.2.1
        · rw [if_pos e']; exact fun z => e z.symm
        · rw [if_neg e']; exact old q' (by omega)
      | some f =>
        rw [hX] at old
        obtain ⟨p, sg, w0, w1, g1, g2, g3, g4, g5, g6, g7⟩ := old
        refine ⟨p, sg, w0, seg ++ w1, by show p < X.2.1 + 1; omega, by rw [ent, if_neg (by omega)]; exact g2, fun q' hq' => by rw [ent, if_neg (by omega)]; exact g3 q' hq', by rw [g4, List.append_assoc], g5, ?_, ?_⟩
        · rw [e84 _ (by omega) (by omega) (by omega) (by omega) (by omega)]; exact g6
        · rw [e84 _ (by omega) (by omega) (by omega) (by omega) (by omega)]; exact g7
section RK
variable {L t : Nat} {lt rt rp : Option Nat} {sw : Bool} {b : Nat → Nat} {k n x i : Nat}
theorem r_sortOf {h : Nat → Nat → Int32} {gl : Nat → Nat → Int64} {c τ : Nat} (W : tW c h gl τ) : avE 5 204 [.ref 81] (sX L t lt rt rp sw h gl) (some (.int (sV2 c)), sX L t lt rt rp sw h gl) := by
  have S := fun c' hc => r_isWord (L := L) (t := t) (lt := lt) (rt := rt) (rp := rp) (sw := sw) W c' hc
  clear W
  show avA _ 204 0 [.ref 81] [] _ _
  refine a_aload_0 rfl rfl ?_
  refine a_bipush (v := (nI 115)) rfl rfl rfl ?_
  refine a_bipush (v := (nI 104)) rfl rfl rfl ?_
  refine a_bipush (v := (nI 105)) rfl rfl rfl ?_
  refine a_bipush (v := (nI 110)) rfl rfl rfl ?_
  refine a_bipush (v := (nI 101)) rfl rfl rfl ?_
  refine a_bipush (v := (nI 115)) rfl rfl rfl ?_
  refine a_statL rfl rfl (r_w6 115 104 105 110 101 115 (by decide) (by decide) (by decide) (by decide) (by decide) (by decide)) (Nat.le_of_ble_eq_true rfl) ⟨rfl, rfl, rfl⟩ rfl rfl rfl (Nat.le_of_ble_eq_true rfl) rfl ?_
  refine a_asL (y := lN (wW 11)) rfl ?_
  refine a_virtI rfl rfl (S 11 (by decide)) (Nat.le_of_ble_eq_true rfl) ⟨rfl, rfl, rfl, rfl⟩ rfl rfl rfl (Nat.le_of_ble_eq_true rfl) rfl rfl ?_
  refine a_ifb_eq rfl rfl rfl (fun c_19 => ?_) (fun c_19 => ?_)
  · refine a_aload_0 rfl rfl ?_
    refine a_bipush (v := (nI 112)) rfl rfl rfl ?_
    refine a_bipush (v := (nI 97)) rfl rfl rfl ?_
    refine a_bipush (v := (nI 121)) rfl rfl rfl ?_
    refine a_bipush (v := (nI 115)) rfl rfl rfl ?_
    refine a_statL rfl rfl (r_w4 112 97 121 115 (by decide) (by decide) (by decide) (by decide)) (Nat.le_of_ble_eq_true rfl) ⟨rfl, rfl, rfl⟩ rfl rfl rfl (Nat.le_of_ble_eq_true rfl) rfl ?_
    refine a_asL (y := lN (wW 12)) rfl ?_
    refine a_virtI rfl rfl (S 12 (by decide)) (Nat.le_of_ble_eq_true rfl) ⟨rfl, rfl, rfl, rfl⟩ rfl rfl rfl (Nat.le_of_ble_eq_true rfl) rfl rfl ?_
    refine a_ifb_eq rfl rfl rfl (fun c_39 => ?_) (fun c_39 => ?_)
    · refine a_aload_0 rfl rfl ?_
      refine a_bipush (v := (nI 107)) rfl rfl rfl ?_
      refine a_bipush (v := (nI 105)) rfl rfl rfl ?_
      refine a_bipush (v := (nI 99)) rfl rfl rfl ?_
      refine a_bipush (v := (nI 107)) rfl rfl rfl ?_
      refine a_bipush (v := (nI 115)) rfl rfl rfl ?_
      refine a_statL rfl rfl (r_w5 107 105 99 107 115 (by decide) (by decide) (by decide) (by decide) (by decide)) (Nat.le_of_ble_eq_true rfl) ⟨rfl, rfl, rfl⟩ rfl rfl rfl (Nat.le_of_ble_eq_true rfl) rfl ?_
      refine a_asL (y := lN (wW 13)) rfl ?_
      refine a_virtI rfl rfl (S 13 (by decide)) (Nat.le_of_ble_eq_true rfl) ⟨rfl, rfl, rfl, rfl⟩ rfl rfl rfl (Nat.le_of_ble_eq_true rfl) rfl rfl ?_
      refine a_ifb_eq rfl rfl rfl (fun c_61 => ?_) (fun c_61 => ?_)
      · refine a_aload_0 rfl rfl ?_
        refine a_bipush (v := (nI 99)) rfl rfl rfl ?_
        refine a_bipush (v := (nI 101)) rfl rfl rfl ?_
        refine a_bipush (v := (nI 108)) rfl rfl rfl ?_
        refine a_bipush (v := (nI 108)) rfl rfl rfl ?_
        refine a_statL rfl rfl (r_w4 99 101 108 108 (by decide) (by decide) (by decide) (by decide)) (Nat.le_of_ble_eq_true rfl) ⟨rfl, rfl, rfl⟩ rfl rfl rfl (Nat.le_of_ble_eq_true rfl) rfl ?_
        refine a_asL (y := lN (wW 14)) rfl ?_
        refine a_virtI rfl rfl (S 14 (by decide)) (Nat.le_of_ble_eq_true rfl) ⟨rfl, rfl, rfl, rfl⟩ rfl rfl rfl (Nat.le_of_ble_eq_true rfl) rfl rfl ?_
        refine a_ifb_eq rfl rfl rfl (fun c_81 => ?_) (fun c_81 => ?_)
        · refine a_aload_0 rfl rfl ?_
          refine a_bipush (v := (nI 104)) rfl rfl rfl ?_
          refine a_bipush (v := (nI 101)) rfl rfl rfl ?_
          refine a_bipush (v := (nI 105)) rfl rfl rfl ?_
          refine a_bipush (v := (nI 103)) rfl rfl rfl ?_
          refine a_bipush (v := (nI 104)) rfl rfl rfl ?_
          refine a_bipush (v := (nI 116)) rfl rfl rfl ?_
          refine a_statL rfl rfl (r_w6 104 101 105 103 104 116 (by decide) (by decide) (by decide) (by decide) (by decide) (by decide)) (Nat.le_of_ble_eq_true rfl) ⟨rfl, rfl, rfl⟩ rfl rfl rfl (Nat.le_of_ble_eq_true rfl) rfl ?_
          refine a_asL (y := lN (wW 5)) rfl ?_
          refine a_virtI rfl rfl (S 5 (by decide)) (Nat.le_of_ble_eq_true rfl) ⟨rfl, rfl, rfl, rfl⟩ rfl rfl rfl (Nat.le_of_ble_eq_true rfl) rfl rfl ?_
          refine a_ifb_eq rfl rfl rfl (fun c_105 => ?_) (fun c_105 => ?_)
          · refine a_aload_0 rfl rfl ?_
            refine a_bipush (v := (nI 98)) rfl rfl rfl ?_
            refine a_bipush (v := (nI 101)) rfl rfl rfl ?_
            refine a_bipush (v := (nI 97)) rfl rfl rfl ?_
            refine a_bipush (v := (nI 115)) rfl rfl rfl ?_
            refine a_bipush (v := (nI 116)) rfl rfl rfl ?_
            refine a_statL rfl rfl (r_w5 98 101 97 115 116 (by decide) (by decide) (by decide) (by decide) (by decide)) (Nat.le_of_ble_eq_true rfl) ⟨rfl, rfl, rfl⟩ rfl rfl rfl (Nat.le_of_ble_eq_true rfl) rfl ?_
            refine a_asL (y := lN (wW 15)) rfl ?_
            refine a_virtI rfl rfl (S 15 (by decide)) (Nat.le_of_ble_eq_true rfl) ⟨rfl, rfl, rfl, rfl⟩ rfl rfl rfl (Nat.le_of_ble_eq_true rfl) rfl rfl ?_
            refine a_ifb_eq rfl rfl rfl (fun c_127 => ?_) (fun c_127 => ?_)
            · refine a_aload_0 rfl rfl ?_
              refine a_bipush (v := (nI 108)) rfl rfl rfl ?_
              refine a_bipush (v := (nI 111)) rfl rfl rfl ?_
              refine a_bipush (v := (nI 100)) rfl rfl rfl ?_
              refine a_bipush (v := (nI 103)) rfl rfl rfl ?_
              refine a_bipush (v := (nI 101)) rfl rfl rfl ?_
              refine a_statL rfl rfl (r_w5 108 111 100 103 101 (by decide) (by decide) (by decide) (by decide) (by decide)) (Nat.le_of_ble_eq_true rfl) ⟨rfl, rfl, rfl⟩ rfl rfl rfl (Nat.le_of_ble_eq_true rfl) rfl ?_
              refine a_asL (y := lN (wW 16)) rfl ?_
              refine a_virtI rfl rfl (S 16 (by decide)) (Nat.le_of_ble_eq_true rfl) ⟨rfl, rfl, rfl, rfl⟩ rfl rfl rfl (Nat.le_of_ble_eq_true rfl) rfl rfl ?_
              refine a_ifb_eq rfl rfl rfl (fun c_149 => ?_) (fun c_149 => ?_)
              · refine a_aload_0 rfl rfl ?_
                refine a_bipush (v := (nI 111)) rfl rfl rfl ?_
                refine a_bipush (v := (nI 117)) rfl rfl rfl ?_
                refine a_bipush (v := (nI 116)) rfl rfl rfl ?_
                refine a_statL rfl rfl (r_w3 111 117 116 (by decide) (by decide) (by decide)) (Nat.le_of_ble_eq_true rfl) ⟨rfl, rfl, rfl⟩ rfl rfl rfl (Nat.le_of_ble_eq_true rfl) rfl ?_
                refine a_asL (y := lN (wW 17)) rfl ?_
                refine a_virtI rfl rfl (S 17 (by decide)) (Nat.le_of_ble_eq_true rfl) ⟨rfl, rfl, rfl, rfl⟩ rfl rfl rfl (Nat.le_of_ble_eq_true rfl) rfl rfl ?_
                refine a_ifb_eq rfl rfl rfl (fun c_168 => ?_) (fun c_168 => ?_)
                · refine a_aload_0 rfl rfl ?_
                  refine a_bipush (v := (nI 108)) rfl rfl rfl ?_
                  refine a_bipush (v := (nI 101)) rfl rfl rfl ?_
                  refine a_bipush (v := (nI 97)) rfl rfl rfl ?_
                  refine a_bipush (v := (nI 100)) rfl rfl rfl ?_
                  refine a_statL rfl rfl (r_w4 108 101 97 100 (by decide) (by decide) (by decide) (by decide)) (Nat.le_of_ble_eq_true rfl) ⟨rfl, rfl, rfl⟩ rfl rfl rfl (Nat.le_of_ble_eq_true rfl) rfl ?_
                  refine a_asL (y := lN (wW 18)) rfl ?_
                  refine a_virtI rfl rfl (S 18 (by decide)) (Nat.le_of_ble_eq_true rfl) ⟨rfl, rfl, rfl, rfl⟩ rfl rfl rfl (Nat.le_of_ble_eq_true rfl) rfl rfl ?_
                  refine a_ifb_eq rfl rfl rfl (fun c_189 => ?_) (fun c_189 => ?_)
                  · refine a_aload_0 rfl rfl ?_
                    refine a_bipush (v := (nI 104)) rfl rfl rfl ?_
                    refine a_bipush (v := (nI 111)) rfl rfl rfl ?_
                    refine a_bipush (v := (nI 117)) rfl rfl rfl ?_
                    refine a_bipush (v := (nI 114)) rfl rfl rfl ?_
                    refine a_statL rfl rfl (r_w4 104 111 117 114 (by decide) (by decide) (by decide) (by decide)) (Nat.le_of_ble_eq_true rfl) ⟨rfl, rfl, rfl⟩ rfl rfl rfl (Nat.le_of_ble_eq_true rfl) rfl ?_
                    refine a_asL (y := lN (wW 0)) rfl ?_
                    refine a_virtI rfl rfl (S 0 (by decide)) (Nat.le_of_ble_eq_true rfl) ⟨rfl, rfl, rfl, rfl⟩ rfl rfl rfl (Nat.le_of_ble_eq_true rfl) rfl rfl ?_
                    refine a_ifb_eq rfl rfl rfl (fun c_212 => ?_) (fun c_212 => ?_)
                    · have e : sV2 c = -1 := (by unfold sV2 srt; rw [if_neg c_19, if_neg c_39, if_neg c_61, if_neg c_81, if_neg c_105, if_neg c_127, if_neg c_149, if_neg c_168, if_neg c_189, if_neg c_212]; rfl)
                      rw [e]
                      refine a_iconst (v := (-1)) rfl rfl rfl ?_
                      exact a_iret rfl rfl
                    · rw [c_212]
                      refine a_bipush (v := (nI 9)) rfl rfl rfl ?_
                      refine a_goto rfl rfl ?_
                      exact a_iret rfl rfl
                  · rw [c_189]
                    refine a_bipush (v := (nI 8)) rfl rfl rfl ?_
                    refine a_goto rfl rfl ?_
                    exact a_iret rfl rfl
                · refine a_bipush (v := (nI 7)) rfl rfl rfl ?_
                  refine av_to (a_iret rfl rfl) ?_
                  rw [c_168]; rfl
              · refine a_bipush (v := (nI 6)) rfl rfl rfl ?_
                refine av_to (a_iret rfl rfl) ?_
                rw [c_149]; rfl
            · refine a_iconst (v := (nI 5)) rfl rfl rfl ?_
              refine av_to (a_iret rfl rfl) ?_
              rw [c_127]; rfl
          · refine a_iconst (v := (nI 4)) rfl rfl rfl ?_
            refine av_to (a_iret rfl rfl) ?_
            rw [c_105]; rfl
        · refine a_iconst (v := (nI 3)) rfl rfl rfl ?_
          refine av_to (a_iret rfl rfl) ?_
          rw [c_81]; rfl
      · refine a_iconst (v := (nI 2)) rfl rfl rfl ?_
        refine av_to (a_iret rfl rfl) ?_
        rw [c_61]; rfl
    · refine a_iconst (v := (nI 1)) rfl rfl rfl ?_
      refine av_to (a_iret rfl rfl) ?_
      rw [c_39]; rfl
  · refine a_iconst (v := (nI 0)) rfl rfl rfl ?_
    refine av_to (a_iret rfl rfl) ?_
    rw [c_19]; rfl
/-- what a law's clause says -/
def RLc (b : Nat → Nat) (k n x s ad : Nat) (w : CdL) (h : Nat → Nat → Int32) (r : Rs) (v : Int32) (h' : Nat → Nat → Int32) (gl' : Nat → Nat → Int64) : Prop := ((∀ o, o ≠ 81 → o ≠ 84 → o ≠ 86 → h' o = h o) ∧ (∀ j, j < 7 ∨ j = 12 ∨ j = 14 ∨ 18 < j → h' 81 j = h 81 j) ∧ ∀ q, (q < 681 * x + 73 ∨ 681 * x + 681 ≤ q) → q ≠ ad + 1 → q ≠ ad + 2 → h' 84 q = h 84 q) ∧ match r with
  | .inl (f, j) => v = nI 0 ∧ TS b k n j h' gl' ∧ ∃ seg, Mn s seg f ∧ h' 81 13 = nI (seg ++ w).length ∧ cR (681 * x + 73) (seg ++ w) (h' 84) ∧ (seg ++ w).length ≤ j ∧ h' 84 (ad + 1) = nI w.length ∧ h' 84 (ad + 2) = nI (w.length + seg.length)
  | .inr (c, j) => v = nI c ∧ 1 ≤ c ∧ c ≤ 5 ∧ TS b k n j h' gl'
theorem r_lawCl {h : Nat → Nat → Int32} {gl : Nat → Nat → Int64} {s ad m : Nat} {w : CdL} {r : Rs} (T : TS b k n i h gl) (e12 : h 81 12 = nI (681 * x)) (hx : x < 4) (e14 : h 81 14 = nI s) (hs : s < 3) (e13 : h 81 13 = nI w.length) (ec : cR (681 * x + 73) w (h 84)) (el : w.length ≤ i) (ha : ad + 2 < 681 * x + 73) (hp : pd s (cdT b k) (nmT b k) m 3 (fun _ => 0) 0 i = some r) : ∃ v h' gl', avE 8 216 [.ref 81, .int (nI ad)] (sX L t lt rt rp sw h gl) (some (.int v), sX L t lt rt rp sw h' gl') ∧ RLc b k n x s ad w h r v h' gl' := by
  have inn := T.2.1.2.2
  have iin := T.2.2.2
  have h1e : ∀ p q, p ≠ 84 → p ≠ 81 → (mvPut (mvPut (mvPut (mvPut h 84 (ad + 1) (nI w.length)) 81 16 (nI 0)) 81 17 (nI 0)) 81 18 (nI 0)) p q = h p q := fun p q g1 g2 => (put_o g2).trans ((put_o g2).trans ((put_o g2).trans (put_o g1)))
  have h1f : ∀ q, q ≠ 16 → q ≠ 17 → q ≠ 18 → (mvPut (mvPut (mvPut (mvPut h 84 (ad + 1) (nI w.length)) 81 16 (nI 0)) 81 17 (nI 0)) 81 18 (nI 0)) 81 q = h 81 q := fun q g1 g2 g3 => (put_nj g3).trans ((put_nj g2).trans ((put_nj g1).trans (put_o (by omega))))
  have h1g : ∀ q, (mvPut (mvPut (mvPut (mvPut h 84 (ad + 1) (nI w.length)) 81 16 (nI 0)) 81 17 (nI 0)) 81 18 (nI 0)) 84 q = (mvPut h 84 (ad + 1) (nI w.length)) 84 q := fun q => (put_o (by omega)).trans ((put_o (by omega)).trans (put_o (by omega)))
  generalize hh1 : mvPut (mvPut (mvPut (mvPut h 84 (ad + 1) (nI w.length)) 81 16 (nI 0)) 81 17 (nI 0)) 81 18 (nI 0) = h1 at *
  have T1 : TS b k n i h1 gl := TS_of T (fun j hj => h1f j (by omega) (by omega) (by omega)) (funext fun q => h1e 85 q (by omega) (by omega))
  have z16 : h1 81 16 = nI 0 := by rw [← hh1]; exact (put_nj (by omega)).trans ((put_nj (by omega)).trans put_eq)
  have z17 : h1 81 17 = nI 0 := by rw [← hh1]; exact (put_nj (by omega)).trans put_eq
  have z18 : h1 81 18 = nI 0 := by rw [← hh1]; exact put_eq
  have Q1 : RQ x s [] w h1 := ⟨(h1f 12 (by omega) (by omega) (by omega)).trans e12, hx, (h1f 14 (by omega) (by omega) (by omega)).trans e14, hs, (h1f 13 (by omega) (by omega) (by omega)).trans e13, z16, z17, trivial, cR_ext ec (fun q g1 _ => (h1g q).trans (put_nj (by omega))), by show 0 + w.length ≤ 300; omega, by decide⟩
  have RC : RCf b k n x s (i, [], false, w) h1 gl := ⟨T1, Q1, z18, by show 0 ≤ 8; omega, by show 0 + 0 ≤ w.length + 0; omega, by show w.length + 0 ≤ i; omega⟩
  have K := k_sum hp
  have fin : ∀ rf, Go s (cdT b k) (nmT b k) (i, [], false, w) rf → ∃ v h2 gl2, avE 7 217 [.ref 81] (sX L t lt rt rp sw (mvPut h 84 (ad + 1) (nI w.length)) gl) (some (.int v), sX L t lt rt rp sw h2 gl2) ∧ RY b k n x s h1 rf v h2 gl2 := by
    intro rf G
    obtain ⟨m', G⟩ := G
    obtain ⟨v, h2, gl2, C, Y⟩ := l_summed (L := L) (t := t) (lt := lt) (rt := rt) (rp := rp) (sw := sw) m' _ _ _ rf mvU G RC
    rw [← hh1] at C
    refine ⟨v, h2, gl2, ?_, Y⟩
    show avA _ 217 0 [.ref 81, mvU] [] _ _
    refine a_aload_0 rfl rfl ?_
    refine a_iconst (v := (nI 0)) rfl rfl rfl ?_
    refine a_puti rfl rfl rfl rfl ?_
    refine a_aload_0 rfl rfl ?_
    refine a_iconst (v := (nI 0)) rfl rfl rfl ?_
    refine a_puti rfl rfl rfl rfl ?_
    refine a_aload_0 rfl rfl ?_
    refine a_iconst (v := (nI 0)) rfl rfl rfl ?_
    refine a_putz rfl rfl rfl rfl (Or.inl rfl) ?_
    exact C
  have frame : ∀ h2 v2, FQ x h1 h2 → ((∀ o, o ≠ 81 → o ≠ 84 → o ≠ 86 → (mvPut h2 84 (ad + 2) v2) o = h o) ∧ (∀ j, j < 7 ∨ j = 12 ∨ j = 14 ∨ 18 < j → (mvPut h2 84 (ad + 2) v2) 81 j = h 81 j) ∧ ∀ q, (q < 681 * x + 73 ∨ 681 * x + 681 ≤ q) → q ≠ ad + 1 → q ≠ ad + 2 → (mvPut h2 84 (ad + 2) v2) 84 q = h 84 q) := fun h2 v2 F => by
    refine ⟨fun o g1 g2 g3 => ?_, fun j hj => ?_, fun q hq g1 g2 => ?_⟩
    · rw [put_ne g2, F.1 o g1 g2 g3]; exact funext fun q => h1e o q g2 g1
    · rw [put_o (by omega), F.2.1 j hj]; exact h1f j (by omega) (by omega) (by omega)
    · rw [put_nj g2, F.2.2 q hq, h1g q]; exact put_nj g1
  match r, hp, K with
  | .inl (f, j), _, ⟨seg, M, G⟩ =>
    obtain ⟨v, h2, gl2, C, F, rfl, T2, ⟨P', Q2⟩, ln⟩ := fin _ (G w)
    have c13 := Q2.2.2.2.2.1
    refine ⟨nI 0, mvPut h2 84 (ad + 2) (h2 81 13), gl2, ?_, frame h2 _ F, rfl, TS_of T2 (fun j _ => put_o (by omega)) (put_ne (by omega)), seg, M, (put_o (by omega)).trans c13, cR_ext Q2.2.2.2.2.2.2.2.2.1 (fun q g1 _ => put_nj (by omega)), ln, ?_, ?_⟩
    · show avA _ 216 0 [.ref 81, .int (nI (ad)), mvU] [] _ _
      refine a_aload_0 rfl rfl ?_
      refine a_getr rfl rfl rfl (fun _ _ _ => rfl) rfl ?_
      refine a_iload_1 rfl rfl ?_
      refine a_iconst (v := (nI 1)) rfl rfl rfl ?_
      refine a_iaddN rfl rfl ?_
      refine a_aload_0 rfl rfl ?_
      refine a_geti rfl rfl rfl (fun _ _ _ => rfl) ?_
      refine a_as (y := nI (w.length)) e13 ?_
      refine a_iast rfl rfl rfl rfl (by omega) (by decide) ?_
      refine a_aload_0 rfl rfl ?_
      refine a_virtI rfl rfl (C) (Nat.le_of_ble_eq_true rfl) ⟨rfl, rfl, rfl, rfl⟩ rfl rfl rfl (Nat.le_of_ble_eq_true rfl) rfl rfl ?_
      refine a_istore_2 rfl rfl rfl ?_
      refine a_aload_0 rfl rfl ?_
      refine a_getr rfl rfl rfl (fun _ _ _ => rfl) rfl ?_
      refine a_iload_1 rfl rfl ?_
      refine a_iconst (v := (nI 2)) rfl rfl rfl ?_
      refine a_iaddN rfl rfl ?_
      refine a_aload_0 rfl rfl ?_
      refine a_geti rfl rfl rfl (fun _ _ _ => rfl) ?_
      refine a_iast rfl rfl rfl rfl (by omega) (by decide) ?_
      refine a_iload_2 rfl rfl ?_
      exact a_iret rfl rfl
    · rw [put_nj (by omega), F.2.2 _ (by omega), h1g]; exact put_eq
    · rw [put_eq, c13, List.length_append, Nat.add_comm]
  | .inr (c, j), _, G =>
    obtain ⟨v, h2, gl2, C, F, rfl, g1, g2, T2⟩ := fin _ (G w)
    refine ⟨nI c, mvPut h2 84 (ad + 2) (h2 81 13), gl2, ?_, frame h2 _ F, rfl, g1, g2, TS_of T2 (fun j _ => put_o (by omega)) (put_ne (by omega))⟩
    show avA _ 216 0 [.ref 81, .int (nI (ad)), mvU] [] _ _
    refine a_aload_0 rfl rfl ?_
    refine a_getr rfl rfl rfl (fun _ _ _ => rfl) rfl ?_
    refine a_iload_1 rfl rfl ?_
    refine a_iconst (v := (nI 1)) rfl rfl rfl ?_
    refine a_iaddN rfl rfl ?_
    refine a_aload_0 rfl rfl ?_
    refine a_geti rfl rfl rfl (fun _ _ _ => rfl) ?_
    refine a_as (y := nI (w.length)) e13 ?_
    refine a_iast rfl rfl rfl rfl (by omega) (by decide) ?_
    refine a_aload_0 rfl rfl ?_
    refine a_virtI rfl rfl (C) (Nat.le_of_ble_eq_true rfl) ⟨rfl, rfl, rfl, rfl⟩ rfl rfl rfl (Nat.le_of_ble_eq_true rfl) rfl rfl ?_
    refine a_istore_2 rfl rfl rfl ?_
    refine a_aload_0 rfl rfl ?_
    refine a_getr rfl rfl rfl (fun _ _ _ => rfl) rfl ?_
    refine a_iload_1 rfl rfl ?_
    refine a_iconst (v := (nI 2)) rfl rfl rfl ?_
    refine a_iaddN rfl rfl ?_
    refine a_aload_0 rfl rfl ?_
    refine a_geti rfl rfl rfl (fun _ _ _ => rfl) ?_
    refine a_iast rfl rfl rfl rfl (by omega) (by decide) ?_
    refine a_iload_2 rfl rfl ?_
    exact a_iret rfl rfl
end RK
