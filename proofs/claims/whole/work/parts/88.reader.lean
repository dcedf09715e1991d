/-! THE READER: its leaves -/
section RL
variable {L t : Nat} {lt rt : Option Nat} {sw : Bool} {gl : Nat → Nat → Int64} {b : Nat → Nat} {k n : Nat} {h : Nat → Nat → Int32}
abbrev cdT (b : Nat → Nat) (k i : Nat) : Nat := (tk b k (tP b k i)).1
abbrev nmT (b : Nat → Nat) (k i : Nat) : Nat := (tk b k (tP b k i)).2.1
/-- the tape is cut, and stands at token i -/
def CA (b : Nat → Nat) (k n i : Nat) (h : Nat → Nat → Int32) : Prop := TK b k n h ∧ h 68 4 = nI i ∧ i ≤ n ∧ k ≤ 300
theorem pk_code (pl nu c : Nat) (h1 : pl ≤ 300) (h2 : nu ≤ 10000) (h3 : c < 64) : pkT pl nu c &&& nI 63 = nI c := by
  rw [pk_andN (by omega) 6 (by decide)]
  congr 1
  omega
theorem pk_num (pl nu c : Nat) (h1 : pl ≤ 300) (h2 : nu ≤ 10000) (h3 : c < 64) : pkT pl nu c >>> (nI 6 &&& 31) &&& nI 16383 = nI nu := by
  rw [pk_shrN (by omega) _ 6 (by decide), pk_andN (by omega) 14 (by decide)]
  congr 1
  omega
theorem pk_pl (pl nu c : Nat) (h1 : pl ≤ 300) (h2 : nu ≤ 10000) (h3 : c < 64) : pkT pl nu c >>> (nI 20 &&& 31) = nI pl := by
  rw [pk_shrN (by omega) _ 20 (by decide)]
  congr 1
  omega
theorem CA_at {i : Nat} (H : CA b k n i h) : h 70 i = pkT (tP b k i) (nmT b k i) (cdT b k i) ∧ tP b k i ≤ 300 ∧ nmT b k i ≤ 10000 ∧ cdT b k i < 48 := by
  obtain ⟨⟨a, _, _, _, _⟩, _, c, d⟩ := H
  have e := tk_lt b k (tP b k i)
  have f := tP_le b k i
  exact ⟨a i c, by omega, e.2.1, e.1⟩
theorem e_token {rp : Option Nat} {i : Nat} (H : CA b k n i h) : avE 0 54 [.ref 68] (sX L t lt rt rp sw h gl) (some (.int (nI (cdT b k i))), sX L t lt rt rp sw h gl) := by
  obtain ⟨e, l1, l2, l3⟩ := CA_at H
  have hn : n ≤ k := H.1.2.2.2.1
  have hi := H.2.2.1
  have hk := H.2.2.2
  show avA _ 54 0 [.ref 68] [] _ _
  refine a_aload_0 rfl rfl ?_
  refine a_getr rfl rfl rfl (fun _ _ _ => rfl) rfl ?_
  refine a_aload_0 rfl rfl ?_
  refine a_geti rfl rfl rfl (fun _ _ _ => rfl) ?_
  refine a_as (y := nI (i)) H.2.1 ?_
  refine a_iald rfl rfl (Or.inl rfl) rfl (by omega) (by decide) ?_
  refine a_as (y := pkT (tP b k i) (nmT b k i) (cdT b k i)) e ?_
  refine a_bipush (v := (nI 63)) rfl rfl rfl ?_
  refine a_iand rfl rfl ?_
  refine a_as (y := nI (cdT b k i)) (pk_code _ _ _ l1 l2 (by omega)) ?_
  exact a_iret rfl rfl
theorem e_number {rp : Option Nat} {i : Nat} (H : CA b k n i h) : avE 0 68 [.ref 68] (sX L t lt rt rp sw h gl) (some (.int (nI (nmT b k i))), sX L t lt rt rp sw h gl) := by
  obtain ⟨e, l1, l2, l3⟩ := CA_at H
  have hn : n ≤ k := H.1.2.2.2.1
  have hi := H.2.2.1
  have hk := H.2.2.2
  show avA _ 68 0 [.ref 68] [] _ _
  refine a_aload_0 rfl rfl ?_
  refine a_getr rfl rfl rfl (fun _ _ _ => rfl) rfl ?_
  refine a_aload_0 rfl rfl ?_
  refine a_geti rfl rfl rfl (fun _ _ _ => rfl) ?_
  refine a_as (y := nI (i)) H.2.1 ?_
  refine a_iald rfl rfl (Or.inl rfl) rfl (by omega) (by decide) ?_
  refine a_as (y := pkT (tP b k i) (nmT b k i) (cdT b k i)) e ?_
  refine a_bipush (v := (nI 6)) rfl rfl rfl ?_
  refine a_ishr rfl rfl ?_
  refine a_sipush (v := (nI 16383)) rfl rfl rfl ?_
  refine a_iand rfl rfl ?_
  refine a_as (y := nI (nmT b k i)) (pk_num _ _ _ l1 l2 (by omega)) ?_
  exact a_iret rfl rfl
theorem e_place {rp : Option Nat} {i : Nat} (H : CA b k n i h) : avE 0 59 [.ref 68] (sX L t lt rt rp sw h gl) (some (.int (nI (tP b k i))), sX L t lt rt rp sw h gl) := by
  obtain ⟨e, l1, l2, l3⟩ := CA_at H
  have hn : n ≤ k := H.1.2.2.2.1
  have hi := H.2.2.1
  have hk := H.2.2.2
  show avA _ 59 0 [.ref 68] [] _ _
  refine a_aload_0 rfl rfl ?_
  refine a_getr rfl rfl rfl (fun _ _ _ => rfl) rfl ?_
  refine a_aload_0 rfl rfl ?_
  refine a_geti rfl rfl rfl (fun _ _ _ => rfl) ?_
  refine a_as (y := nI (i)) H.2.1 ?_
  refine a_iald rfl rfl (Or.inl rfl) rfl (by omega) (by decide) ?_
  refine a_as (y := pkT (tP b k i) (nmT b k i) (cdT b k i)) e ?_
  refine a_bipush (v := (nI 20)) rfl rfl rfl ?_
  refine a_ishr rfl rfl ?_
  refine a_as (y := nI (tP b k i)) (pk_pl _ _ _ l1 l2 (by omega)) ?_
  exact a_iret rfl rfl
theorem e_advance {rp : Option Nat} {i : Nat} (H : CA b k n i h) (hi : i < n) : avE 0 62 [.ref 68] (sX L t lt rt rp sw h gl) (none, sX L t lt rt rp sw (mvPut h 68 4 (nI (i + 1))) gl) := by
  have hn : n ≤ k := H.1.2.2.2.1
  have hk := H.2.2.2
  show avA _ 62 0 [.ref 68] [] _ _
  refine a_aload_0 rfl rfl ?_
  refine a_geti rfl rfl rfl (fun _ _ _ => rfl) ?_
  refine a_as (y := nI (i)) H.2.1 ?_
  refine a_iconst (v := (nI 1)) rfl rfl rfl ?_
  refine a_iaddN rfl rfl ?_
  refine a_aload_0 rfl rfl ?_
  refine a_geti rfl rfl rfl (fun _ _ _ => rfl) ?_
  refine a_as (y := nI (n + 1)) H.1.2.2.2.2 ?_
  refine a_cmpN_ge rfl rfl rfl (by omega) (by omega) (fun c_10 => False.elim (by omega)) (fun _ => ?_)
  refine a_aload_0 rfl rfl ?_
  refine a_dup rfl rfl rfl ?_
  refine a_geti rfl rfl rfl (fun _ _ _ => rfl) ?_
  refine a_as (y := nI (i)) H.2.1 ?_
  refine a_iconst (v := (nI 1)) rfl rfl rfl ?_
  refine a_iaddN rfl rfl ?_
  refine a_puti rfl rfl rfl rfl ?_
  exact a_vret rfl rfl
theorem CA_adv {i : Nat} (H : CA b k n i h) (hi : i < n) : CA b k n (i + 1) (mvPut h 68 4 (nI (i + 1))) := by
  obtain ⟨⟨a1, a2, a3, a4, a5⟩, _, c, d⟩ := H
  refine ⟨⟨a1, a2, a3, a4, ?_⟩, ?_, by omega, d⟩
  · rw [put_at]; simp; exact a5
  · rw [put_at]; simp
end RL
