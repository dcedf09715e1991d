/-! CLAUSES: the class -/
theorem isLaw_s (c : Nat) : (11 ≤ c ∧ c ≤ 13) ↔ srt c < 3 := by
  unfold srt
  repeat' split
  all_goals omega
theorem isDeed_s (c : Nat) : ((11 ≤ c ∧ c ≤ 13) ∨ (14 ≤ c ∧ c ≤ 18) ∨ c = 5 ∨ c = 0) ↔ srt c ≠ 10 := by
  unfold srt
  repeat' split
  all_goals omega
theorem srt_wd (c : Nat) (h : srt c ≠ 10) : wdOf (srt c) = c ∧ srt c < 10 := by
  unfold srt at h ⊢
  repeat' split
  all_goals first | (constructor <;> first | (subst_vars; rfl) | omega) | skip
  all_goals simp_all
section CC
variable {L t : Nat} {lt : Option Nat} {sw : Bool} {gl : Nat → Nat → Int64} {b : Nat → Nat} {k n x : Nat}
theorem e_isLawS {σ : mvSt} (c : Nat) (hc : c < 64) : avE 0 56 [.int (nI c)] σ (some (.int (bI (srt c < 3))), σ) := by
  have := isLaw_s c
  show avA _ 56 0 [.int (nI (c))] [] _ _
  refine a_iload_0 rfl rfl ?_
  refine a_bipush (v := (nI 11)) rfl rfl rfl ?_
  refine a_cmpN_lt rfl rfl rfl (by omega) (by omega) (fun c_3 => ?_) (fun c_3 => ?_)
  · refine a_iconst (v := (nI 0)) rfl rfl rfl ?_
    refine av_to (a_zret rfl rfl (Or.inl rfl)) (bz0 ?_)
    omega
  · refine a_iload_0 rfl rfl ?_
    refine a_bipush (v := (nI 13)) rfl rfl rfl ?_
    refine a_cmpN_gt rfl rfl rfl (by omega) (by omega) (fun c_9 => ?_) (fun c_9 => ?_)
    · refine a_iconst (v := (nI 0)) rfl rfl rfl ?_
      refine av_to (a_zret rfl rfl (Or.inl rfl)) (bz0 ?_)
      omega
    · refine a_iconst (v := (nI 1)) rfl rfl rfl ?_
      refine a_goto rfl rfl ?_
      refine av_to (a_zret rfl rfl (Or.inr rfl)) (bz1 ?_)
      omega
theorem e_isDeedS {σ : mvSt} (c : Nat) (hc : c < 64) : avE 0 57 [.int (nI c)] σ (some (.int (bI ((14 ≤ c ∧ c ≤ 18) ∨ c = 5 ∨ c = 0))), σ) := by
  show avA _ 57 0 [.int (nI (c))] [] _ _
  refine a_iload_0 rfl rfl ?_
  refine a_bipush (v := (nI 14)) rfl rfl rfl ?_
  refine a_cmpN_lt rfl rfl rfl (by omega) (by omega) (fun c_3 => ?_) (fun c_3 => ?_)
  · refine a_iload_0 rfl rfl ?_
    refine a_iconst (v := (nI 5)) rfl rfl rfl ?_
    refine a_cmpN_eq rfl rfl rfl (by omega) (by omega) (fun c_14 => ?_) (fun c_14 => ?_)
    · refine a_iconst (v := (nI 1)) rfl rfl rfl ?_
      refine a_goto rfl rfl ?_
      refine av_to (a_zret rfl rfl (Or.inr rfl)) (bz1 ?_)
      omega
    · refine a_iload_0 rfl rfl ?_
      refine a_ifN_ne rfl rfl rfl (by omega) (fun c_18 => ?_) (fun c_18 => ?_)
      · refine a_iconst (v := (nI 0)) rfl rfl rfl ?_
        refine av_to (a_zret rfl rfl (Or.inl rfl)) (bz0 ?_)
        omega
      · refine a_iconst (v := (nI 1)) rfl rfl rfl ?_
        refine a_goto rfl rfl ?_
        refine av_to (a_zret rfl rfl (Or.inr rfl)) (bz1 ?_)
        omega
  · refine a_iload_0 rfl rfl ?_
    refine a_bipush (v := (nI 18)) rfl rfl rfl ?_
    refine a_cmpN_le rfl rfl rfl (by omega) (by omega) (fun c_9 => ?_) (fun c_9 => ?_)
    · refine a_iconst (v := (nI 1)) rfl rfl rfl ?_
      refine a_goto rfl rfl ?_
      refine av_to (a_zret rfl rfl (Or.inr rfl)) (bz1 ?_)
      omega
    · refine a_iload_0 rfl rfl ?_
      refine a_iconst (v := (nI 5)) rfl rfl rfl ?_
      refine a_cmpN_eq rfl rfl rfl (by omega) (by omega) (fun c_14 => ?_) (fun c_14 => ?_)
      · refine a_iconst (v := (nI 1)) rfl rfl rfl ?_
        refine a_goto rfl rfl ?_
        refine av_to (a_zret rfl rfl (Or.inr rfl)) (bz1 ?_)
        omega
      · refine a_iload_0 rfl rfl ?_
        refine a_ifN_ne rfl rfl rfl (by omega) (fun c_18 => ?_) (fun c_18 => ?_)
        · refine a_iconst (v := (nI 0)) rfl rfl rfl ?_
          refine av_to (a_zret rfl rfl (Or.inl rfl)) (bz0 ?_)
          omega
        · refine a_iconst (v := (nI 1)) rfl rfl rfl ?_
          refine a_goto rfl rfl ?_
          refine av_to (a_zret rfl rfl (Or.inr rfl)) (bz1 ?_)
          omega
theorem e_tells {h : Nat → Nat → Int32} (hx : x < t) (s : Nat) (hs : s < 3) : avE 0 60 [.ref (98 + 7 * x), .int (nI s)] (sD L t lt x sw h gl) (some (.int (bI (h (98 + 7 * x + 5) s ≠ -1))), sD L t lt x sw h gl) := by
  show avA _ 60 0 [.ref (98 + 7 * x), .int (nI (s))] [] _ _
  refine a_aload_0 rfl rfl ?_
  refine a_getr rfl rfl (congrArg Prod.fst (tx_t hx)) (fun _ _ _ => rfl) (tx_r6 hx) ?_
  refine a_iload_1 rfl rfl ?_
  refine a_iald rfl rfl (Or.inl (tx_5 hx)) rfl (by omega) (by decide) ?_
  refine a_iconst (v := (-1)) rfl rfl rfl ?_
  refine a_cmp_eq rfl rfl rfl (fun c_7 => ?_) (fun c_7 => ?_)
  · refine a_iconst (v := (nI 0)) rfl rfl rfl ?_
    refine av_to (a_zret rfl rfl (Or.inl rfl)) (bz0 ?_)
    first | exact c_7 | exact not_not_intro c_7
  · refine a_iconst (v := (nI 1)) rfl rfl rfl ?_
    refine a_goto rfl rfl ?_
    refine av_to (a_zret rfl rfl (Or.inr rfl)) (bz1 ?_)
    first | exact c_7 | exact not_not_intro c_7
abbrev clPu (x c : Nat) (wd v1 v2 : Int32) (h : Nat → Nat → Int32) : Nat → Nat → Int32 := mvPut (mvPut (mvPut (mvPut h (98 + 7 * x + 1) c wd) (98 + 7 * x + 2) c v1) (98 + 7 * x + 3) c v2) (98 + 7 * x) 3 (nI (c + 1))
theorem e_addCl {h : Nat → Nat → Int32} (hx : x < t) (c : Nat) (hc : c < 24) (H : h (98 + 7 * x) 3 = nI c) (wd v1 v2 : Int32) : avE 0 78 [.ref (98 + 7 * x), .int wd, .int v1, .int v2] (sD L t lt x sw h gl) (none, sD L t lt x sw (clPu x c wd v1 v2 h) gl) := by
  show avA _ 78 0 [.ref (98 + 7 * x), .int (wd), .int (v1), .int (v2)] [] _ _
  refine a_aload_0 rfl rfl ?_
  refine a_geti rfl rfl (congrArg Prod.fst (tx_t hx)) (fun _ _ _ => rfl) ?_
  refine a_as (y := nI (c)) H ?_
  refine a_bipush (v := (nI 24)) rfl rfl rfl ?_
  refine a_cmpN_ge rfl rfl rfl (by omega) (by omega) (fun c_6 => False.elim (by omega)) (fun _ => ?_)
  refine a_aload_0 rfl rfl ?_
  refine a_getr rfl rfl (congrArg Prod.fst (tx_t hx)) (fun _ _ _ => rfl) (tx_r0 hx) ?_
  refine a_aload_0 rfl rfl ?_
  refine a_geti rfl rfl (congrArg Prod.fst (tx_t hx)) (fun _ _ _ => rfl) ?_
  refine a_as (y := nI (c)) H ?_
  refine a_iload_1 rfl rfl ?_
  refine a_iast rfl rfl (tx_1 hx) rfl (by omega) (by decide) ?_
  refine a_aload_0 rfl rfl ?_
  refine a_getr rfl rfl (congrArg Prod.fst (tx_t hx)) (fun _ _ _ => rfl) (tx_r1 hx) ?_
  refine a_aload_0 rfl rfl ?_
  refine a_geti rfl rfl (congrArg Prod.fst (tx_t hx)) (fun _ _ _ => rfl) ?_
  refine a_as (y := nI (c)) ((put_o (by omega)).trans H) ?_
  refine a_iload_2 rfl rfl ?_
  refine a_iast rfl rfl (tx_2 hx) rfl (by omega) (by decide) ?_
  refine a_aload_0 rfl rfl ?_
  refine a_getr rfl rfl (congrArg Prod.fst (tx_t hx)) (fun _ _ _ => rfl) (tx_r2 hx) ?_
  refine a_aload_0 rfl rfl ?_
  refine a_geti rfl rfl (congrArg Prod.fst (tx_t hx)) (fun _ _ _ => rfl) ?_
  refine a_as (y := nI (c)) ((put_o (by omega)).trans ((put_o (by omega)).trans H)) ?_
  refine a_iload_3 rfl rfl ?_
  refine a_iast rfl rfl (tx_3 hx) rfl (by omega) (by decide) ?_
  refine a_aload_0 rfl rfl ?_
  refine a_dup rfl rfl rfl ?_
  refine a_geti rfl rfl (congrArg Prod.fst (tx_t hx)) (fun _ _ _ => rfl) ?_
  refine a_as (y := nI (c)) ((put_o (by omega)).trans ((put_o (by omega)).trans ((put_o (by omega)).trans H))) ?_
  refine a_iconst (v := (nI 1)) rfl rfl rfl ?_
  refine a_iaddN rfl rfl ?_
  refine a_puti rfl rfl (congrArg Prod.fst (tx_t hx)) rfl ?_
  exact a_vret rfl rfl
/-- what reading a text changes -/
abbrev lw3 (h : Nat → Nat → Int32) : Prop := ∃ law, law < 3 ∧ h 72 2 = nI law
def FT (x : Nat) (h h' : Nat → Nat → Int32) : Prop := (∀ o, o ≠ 68 → o ≠ 72 → (o < 98 + 7 * x ∨ 98 + 7 * x + 7 ≤ o) → h' o = h o) ∧ (∀ j, j ≠ 4 → h' 68 j = h 68 j) ∧ (lw3 h → lw3 h')
theorem FT_refl {h : Nat → Nat → Int32} : FT x h h := ⟨fun _ _ _ _ => rfl, fun _ _ => rfl, id⟩
theorem FT_trans {h h' h'' : Nat → Nat → Int32} (H : FT x h h') (G : FT x h' h'') : FT x h h'' := ⟨fun o a b c => (G.1 o a b c).trans (H.1 o a b c), fun j a => (G.2.1 j a).trans (H.2.1 j a), fun z => G.2.2 (H.2.2 z)⟩
theorem FR_FT {h h' : Nat → Nat → Int32} (H : FR x h h') : FT x h h' := ⟨fun o a b c => H.1 o a b (by omega) (by omega), H.2.1, fun ⟨l, l1, l2⟩ => ⟨l, l1, (H.2.2.1 2 (by omega) (by omega)).trans l2⟩⟩
theorem FT_put {o j : Nat} {h : Nat → Nat → Int32} {v : Int32} (ho : (o = 68 ∧ j = 4) ∨ (o = 72 ∧ j ≠ 2) ∨ (98 + 7 * x ≤ o ∧ o < 98 + 7 * x + 7)) : FT x h (mvPut h o j v) := by
  refine ⟨fun p a b c => put_ne (by omega), fun q a => ?_, fun ⟨l, l1, l2⟩ => ⟨l, l1, ?_⟩⟩
  · rw [put_at, if_neg (by omega)]
  · rw [put_at, if_neg (by omega)]; exact l2
theorem FT_law {h : Nat → Nat → Int32} {s : Nat} (hs : s < 3) : FT x h (mvPut h 72 2 (nI s)) := ⟨fun p a b c => put_ne b, fun q a => put_o (by omega), fun _ => ⟨s, hs, put_eq⟩⟩
theorem FT_cl {c : Nat} {wd v1 v2 : Int32} {h : Nat → Nat → Int32} : FT x h (clPu x c wd v1 v2 h) := FT_trans (FT_put (by omega)) (FT_trans (FT_put (by omega)) (FT_trans (FT_put (by omega)) (FT_put (by omega))))
theorem CA_ft {i : Nat} {h h' : Nat → Nat → Int32} (H : CA b k n i h) (F : FT x h h') (e : h' 68 4 = h 68 4) : CA b k n i h' := by
  obtain ⟨⟨a1, a2, a3, a4, a5⟩, a6, a7, a8⟩ := H
  have e70 := F.1 70 (by omega) (by omega) (by omega)
  refine ⟨⟨?_, a2, a3, a4, ?_⟩, e.trans a6, a7, a8⟩
  · rw [e70]; exact a1
  · rw [F.2.1 3 (by omega)]; exact a5
theorem DD_cl {c : Nat} {wd v1 v2 : Int32} {h : Nat → Nat → Int32} (H : DD b k n x h) : DD b k n x (clPu x c wd v1 v2 h) ∧ (clPu x c wd v1 v2 h) 72 = h 72 := by
  have e72 : (clPu x c wd v1 v2 h) 72 = h 72 := (put_ne (by omega)).trans ((put_ne (by omega)).trans ((put_ne (by omega)).trans (put_ne (by omega))))
  have e68 : (clPu x c wd v1 v2 h) 68 = h 68 := (put_ne (by omega)).trans ((put_ne (by omega)).trans ((put_ne (by omega)).trans (put_ne (by omega))))
  obtain ⟨⟨i, hi⟩, ⟨c', e, h1⟩, len, l1, l2⟩ := H
  refine ⟨⟨⟨i, CA_ft hi FT_cl (by rw [e68])⟩, ⟨c', by rw [e72]; exact e, h1⟩, len, l1, ?_⟩, e72⟩
  exact (put_nj (by omega)).trans ((put_o (by omega)).trans ((put_o (by omega)).trans ((put_o (by omega)).trans l2)))
/-- the class stands at token i of a text that is X so far -/
def CX (b : Nat → Nat) (k n x : Nat) (X : Txt) (i len : Nat) (h : Nat → Nat → Int32) : Prop := CA b k n i h ∧ (∃ law, law < 3 ∧ h 72 2 = nI law) ∧ h 72 3 = nI 0 ∧ h 72 4 = -1 ∧ h (98 + 7 * x) 5 = nI len ∧ len ≤ i ∧ h 1 = (fun j => msNames.getD j 0) ∧ clsOK X.2 ∧ clsC X.2 h (98 + 7 * x) ∧ ∀ s, s < 3 → lawC h (98 + 7 * x) s (X.1 s)
/-- what a clause's reading says -/
def RX (b : Nat → Nat) (k n x : Nat) (h : Nat → Nat → Int32) (r : Rc) (h' : Nat → Nat → Int32) : Prop := FT x h h' ∧ match r with
  | .inl (X, j) => ∃ len, CX b k n x X j len h'
  | .inr (c, j) => DD b k n x h' ∧ h' 72 3 = nI c ∧ h' 72 4 = nI (tP b k j)
theorem CX_AL {X : Txt} {i len : Nat} {h : Nat → Nat → Int32} (H : CX b k n x X i len h) : ∃ law, AL b k n x law i len h := by
  obtain ⟨a1, ⟨law, l1, l2⟩, a2, a3, a4, a5, a6, a7⟩ := H
  exact ⟨law, a1, l2, l1, a2, a4, a5, a6⟩
theorem lawC_up {h h' : Nat → Nat → Int32} {o s len len' : Nat} {fo : Option (E1 → Int)} (H : lawC h o s fo) (hl : h o 5 = nI len) (hl' : h' o 5 = nI len') (l1 : len ≤ len') (l2 : len' ≤ 300) (e5 : h' (o + 5) s = h (o + 5) s) (e6 : h' (o + 6) s = h (o + 6) s) (e4 : ∀ q, q < len → h' (o + 4) q = h (o + 4) q) : lawC h' o s fo := by
  cases fo with
  | none => exact e5.trans H
  | some f =>
    obtain ⟨bf, st, en, ln, a1, a2, a3, a4, a5, a6, a7⟩ := H
    have el : ln = len := (nI_eq (by omega) (by omega)).mp (a3.symm.trans hl)
    exact ⟨bf, st, en, len', e5.trans a1, e6.trans a2, hl', a4, by omega, l2, Sg1_cg a7 (fun q _ hq => e4 q (by omega))⟩
end CC
