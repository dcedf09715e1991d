/-! THE READER: the text's code, faults, taking tokens -/
theorem pk_cd (nu sg : Nat) (h1 : nu ≤ 10000) (h2 : sg < 64) : nI nu <<< (nI 6 &&& 31) ||| nI sg = nI (nu * 64 + sg) := by
  rw [pk_shlN _ 6 (by decide) (by omega), nI_or]
  congr 1
  exact or_low (k := 6) h2
section RM
variable {L t : Nat} {lt rt rp : Option Nat} {sw : Bool} {gl : Nat → Nat → Int64} {h : Nat → Nat → Int32}
theorem e_addCode {x len sg nu : Nat} (hx : x < t) (hl : h (98 + 7 * x) 5 = nI len) (l3 : len < 300) (h1 : nu ≤ 10000) (h2 : sg < 64) : avE 0 69 [.ref (98 + 7 * x), .int (nI sg), .int (nI nu)] (sX L t lt rt rp sw h gl) (none, sX L t lt rt rp sw (mvPut (mvPut h (98 + 7 * x + 4) len (nI (nu * 64 + sg))) (98 + 7 * x) 5 (nI (len + 1))) gl) := by
  show avA _ 69 0 [.ref (98 + 7 * x), .int (nI (sg)), .int (nI (nu))] [] _ _
  refine a_aload_0 rfl rfl ?_
  refine a_geti rfl rfl (congrArg Prod.fst (tx_t hx)) (fun _ _ _ => rfl) ?_
  refine a_as (y := nI (len)) hl ?_
  refine a_sipush (v := (nI 300)) rfl rfl rfl ?_
  refine a_cmpN_ge rfl rfl rfl (by omega) (by omega) (fun c_7 => False.elim (by omega)) (fun _ => ?_)
  refine a_aload_0 rfl rfl ?_
  refine a_getr rfl rfl (congrArg Prod.fst (tx_t hx)) (fun _ _ _ => rfl) (tx_r4 hx) ?_
  refine a_aload_0 rfl rfl ?_
  refine a_geti rfl rfl (congrArg Prod.fst (tx_t hx)) (fun _ _ _ => rfl) ?_
  refine a_as (y := nI (len)) hl ?_
  refine a_iload_2 rfl rfl ?_
  refine a_bipush (v := (nI 6)) rfl rfl rfl ?_
  refine a_ishl rfl rfl ?_
  refine a_iload_1 rfl rfl ?_
  refine a_ior rfl rfl ?_
  refine a_as (y := nI (nu * 64 + sg)) (pk_cd nu sg h1 h2) ?_
  refine a_iast rfl rfl (tx_4 hx) rfl (by omega) (by decide) ?_
  refine a_aload_0 rfl rfl ?_
  refine a_dup rfl rfl rfl ?_
  refine a_geti rfl rfl (congrArg Prod.fst (tx_t hx)) (fun _ _ _ => rfl) ?_
  refine a_as (y := nI (len)) (by rw [put_at, if_neg (by omega)]; exact hl) ?_
  refine a_iconst (v := (nI 1)) rfl rfl rfl ?_
  refine a_iaddN rfl rfl ?_
  refine a_puti rfl rfl (congrArg Prod.fst (tx_t hx)) rfl ?_
  exact a_vret rfl rfl
theorem e_addCodeF {x sg nu : Nat} (hx : x < t) (hl : h (98 + 7 * x) 5 = nI 300) : avE 0 69 [.ref (98 + 7 * x), .int (nI sg), .int (nI nu)] (sX L t lt rt rp sw h gl) (none, sX L t lt rt rp sw h gl) := by
  show avA _ 69 0 [.ref (98 + 7 * x), .int (nI (sg)), .int (nI (nu))] [] _ _
  refine a_aload_0 rfl rfl ?_
  refine a_geti rfl rfl (congrArg Prod.fst (tx_t hx)) (fun _ _ _ => rfl) ?_
  refine a_as (y := nI (300)) hl ?_
  refine a_sipush (v := (nI 300)) rfl rfl rfl ?_
  refine a_cmpN_ge rfl rfl rfl (by omega) (by omega) (fun _ => ?_) (fun c_7 => False.elim (by omega))
  exact a_vret rfl rfl
end RM
