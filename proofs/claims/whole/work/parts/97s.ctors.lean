/-! THE CONSTRUCTORS of the class and of the reference -/
def iPrs (o m q : Nat) (σ : mvSt) : mvSt := (pR (mkS (pR (mkS (pI σ (o) 2 (nI 0)) 20 q) (o) 0 (some (m))) 20 q) (o) 1 (some (m + 1)))
theorem e_iPrs {σ : mvSt} {o m q : Nat} (hz : q < 65536) (G : Gr σ m o 4) : avE 0 6 [.ref o, .int (nI q)] σ (none, iPrs o m q σ) := by
  show avA _ 6 0 [.ref o, .int (nI q)] [] _ _
  refine a_aload_0 rfl rfl ?_
  refine a_obj rfl rfl G.2.2.2.2 (Nat.le_of_ble_eq_true rfl) ?_
  refine a_aload_0 rfl rfl ?_
  refine a_iconst (v := (nI 0)) rfl rfl rfl ?_
  refine c_puti rfl rfl G.2.1 rfl ?_
  replace G := gr_pI (p := o) (k := 2) (v := (nI 0)) G
  refine a_aload_0 rfl rfl ?_
  refine a_iload_1 rfl rfl ?_
  refine c_newI (z := q) rfl rfl rfl hz G.1 ?_
  replace G := gr_mk (t := 20) (z := q) G
  refine c_putrS rfl rfl G.2.1 rfl ?_
  replace G := gr_pR (k := 0) (v := (some (m))) G G.2.2.1
  refine a_aload_0 rfl rfl ?_
  refine a_iload_1 rfl rfl ?_
  refine c_newI (z := q) rfl rfl rfl hz G.1 ?_
  replace G := gr_mk (t := 20) (z := q) G
  refine c_putrS rfl rfl G.2.1 rfl ?_
  replace G := gr_pR (k := 1) (v := (some (m + 1))) G G.2.2.1
  exact a_vret rfl rfl
theorem g_iPrs {σ : mvSt} {o m q : Nat} {p c : Nat} (G : Gr σ m p c) (ho : o < m) : Gr (iPrs o m q σ) (m + 2) p c := by
  replace G := gr_pI (p := o) (k := 2) (v := (nI 0)) G
  replace G := gr_mk (t := 20) (z := q) G
  replace G := gr_pR (k := 0) (v := (some (m))) G (show o < _ by omega)
  replace G := gr_mk (t := 20) (z := q) G
  replace G := gr_pR (k := 1) (v := (some (m + 1))) G (show o < _ by omega)
  exact G
theorem t_iPrs {σ : mvSt} {o m q : Nat} {p c : Nat} (G : Gr σ m p c) (H : TB σ) (ho : o < m) (h7 : 7 ≤ o) : TB (iPrs o m q σ) := by
  replace H := tb_pI (p := o) (k := 2) (v := (nI 0)) H h7
  replace G := gr_pI (p := o) (k := 2) (v := (nI 0)) G
  replace H := tb_mk (t := 20) (z := q) H (gr_7 G)
  replace G := gr_mk (t := 20) (z := q) G
  replace H := tb_pR (p := o) (k := 0) (v := (some (m))) H h7
  replace G := gr_pR (k := 0) (v := (some (m))) G (show o < _ by omega)
  replace H := tb_mk (t := 20) (z := q) H (gr_7 G)
  replace G := gr_mk (t := 20) (z := q) G
  replace H := tb_pR (p := o) (k := 1) (v := (some (m + 1))) H h7
  replace G := gr_pR (k := 1) (v := (some (m + 1))) G (show o < _ by omega)
  exact H
theorem f_iPrs {σ : mvSt} {o m q : Nat} {p c i : Nat} (hm : o < m) (G : Gr σ m p c) (hi : i < m) (hn : i ≠ o) : SameAt i σ (iPrs o m q σ) := by
  have S : SameAt i σ σ := sa_refl
  have ho : o ≤ o := Nat.le_refl _
  replace S := sa_tr S (sa_pI (p := o) (k := 2) (v := (nI 0)) hn)
  replace G := gr_pI (p := o) (k := 2) (v := (nI 0)) G
  replace S := sa_tr S (sa_mk (t := 20) (z := q) G (by omega))
  replace G := gr_mk (t := 20) (z := q) G
  replace S := sa_tr S (sa_pR (p := o) (k := 0) (v := (some (m))) hn)
  replace G := gr_pR (p := o) (k := 0) (v := (some (m))) G (by have := hm; omega)
  replace S := sa_tr S (sa_mk (t := 20) (z := q) G (by omega))
  replace G := gr_mk (t := 20) (z := q) G
  replace S := sa_tr S (sa_pR (p := o) (k := 1) (v := (some (m + 1))) hn)
  replace G := gr_pR (p := o) (k := 1) (v := (some (m + 1))) G (by have := hm; omega)
  exact S
def iMom (o m : Nat) (σ : mvSt) : mvSt := (pI (pI (pR (mkS (pR (mkS (pR (mkS (pR (mkS (pI (pI (pI (pI (pI σ (o) 0 (-1)) (o) 1 (nI 0)) (o) 2 (nI 0)) (o) 3 (nI 197)) (o) 4 (nI 0)) 20 5) (o) 5 (some (m))) 20 5) (o) 6 (some (m + 1))) 20 5) (o) 7 (some (m + 2))) 20 30) (o) 8 (some (m + 3))) (o) 9 (nI 0)) (o) 10 (nI 0))
theorem e_iMom {σ : mvSt} {o m : Nat} (G : Gr σ m o 3) : avE 0 5 [.ref o] σ (none, iMom o m σ) := by
  show avA _ 5 0 [.ref o] [] _ _
  refine a_aload_0 rfl rfl ?_
  refine a_obj rfl rfl G.2.2.2.2 (Nat.le_of_ble_eq_true rfl) ?_
  refine a_aload_0 rfl rfl ?_
  refine a_iconst (v := (-1)) rfl rfl rfl ?_
  refine c_puti rfl rfl G.2.1 rfl ?_
  replace G := gr_pI (p := o) (k := 0) (v := (-1)) G
  refine a_aload_0 rfl rfl ?_
  refine a_iconst (v := (nI 0)) rfl rfl rfl ?_
  refine c_puti rfl rfl G.2.1 rfl ?_
  replace G := gr_pI (p := o) (k := 1) (v := (nI 0)) G
  refine a_aload_0 rfl rfl ?_
  refine a_iconst (v := (nI 0)) rfl rfl rfl ?_
  refine c_puti rfl rfl G.2.1 rfl ?_
  replace G := gr_pI (p := o) (k := 2) (v := (nI 0)) G
  refine a_aload_0 rfl rfl ?_
  refine a_sipush (v := (nI 197)) rfl rfl rfl ?_
  refine c_puti rfl rfl G.2.1 rfl ?_
  replace G := gr_pI (p := o) (k := 3) (v := (nI 197)) G
  refine a_aload_0 rfl rfl ?_
  refine a_iconst (v := (nI 0)) rfl rfl rfl ?_
  refine c_puti rfl rfl G.2.1 rfl ?_
  replace G := gr_pI (p := o) (k := 4) (v := (nI 0)) G
  refine a_aload_0 rfl rfl ?_
  refine a_iconst (v := (nI 5)) rfl rfl rfl ?_
  refine c_newI (z := 5) rfl rfl rfl (by decide) G.1 ?_
  replace G := gr_mk (t := 20) (z := 5) G
  refine c_putrS rfl rfl G.2.1 rfl ?_
  replace G := gr_pR (k := 5) (v := (some (m))) G G.2.2.1
  refine a_aload_0 rfl rfl ?_
  refine a_iconst (v := (nI 5)) rfl rfl rfl ?_
  refine c_newI (z := 5) rfl rfl rfl (by decide) G.1 ?_
  replace G := gr_mk (t := 20) (z := 5) G
  refine c_putrS rfl rfl G.2.1 rfl ?_
  replace G := gr_pR (k := 6) (v := (some (m + 1))) G G.2.2.1
  refine a_aload_0 rfl rfl ?_
  refine a_iconst (v := (nI 5)) rfl rfl rfl ?_
  refine c_newI (z := 5) rfl rfl rfl (by decide) G.1 ?_
  replace G := gr_mk (t := 20) (z := 5) G
  refine c_putrS rfl rfl G.2.1 rfl ?_
  replace G := gr_pR (k := 7) (v := (some (m + 2))) G G.2.2.1
  refine a_aload_0 rfl rfl ?_
  refine a_bipush (v := (nI 30)) rfl rfl rfl ?_
  refine c_newI (z := 30) rfl rfl rfl (by decide) G.1 ?_
  replace G := gr_mk (t := 20) (z := 30) G
  refine c_putrS rfl rfl G.2.1 rfl ?_
  replace G := gr_pR (k := 8) (v := (some (m + 3))) G G.2.2.1
  refine a_aload_0 rfl rfl ?_
  refine a_iconst (v := (nI 0)) rfl rfl rfl ?_
  refine c_puti rfl rfl G.2.1 rfl ?_
  replace G := gr_pI (p := o) (k := 9) (v := (nI 0)) G
  refine a_aload_0 rfl rfl ?_
  refine a_iconst (v := (nI 0)) rfl rfl rfl ?_
  refine c_puti rfl rfl G.2.1 rfl ?_
  replace G := gr_pI (p := o) (k := 10) (v := (nI 0)) G
  exact a_vret rfl rfl
theorem g_iMom {σ : mvSt} {o m : Nat} {p c : Nat} (G : Gr σ m p c) (ho : o < m) : Gr (iMom o m σ) (m + 4) p c := by
  replace G := gr_pI (p := o) (k := 0) (v := (-1)) G
  replace G := gr_pI (p := o) (k := 1) (v := (nI 0)) G
  replace G := gr_pI (p := o) (k := 2) (v := (nI 0)) G
  replace G := gr_pI (p := o) (k := 3) (v := (nI 197)) G
  replace G := gr_pI (p := o) (k := 4) (v := (nI 0)) G
  replace G := gr_mk (t := 20) (z := 5) G
  replace G := gr_pR (k := 5) (v := (some (m))) G (show o < _ by omega)
  replace G := gr_mk (t := 20) (z := 5) G
  replace G := gr_pR (k := 6) (v := (some (m + 1))) G (show o < _ by omega)
  replace G := gr_mk (t := 20) (z := 5) G
  replace G := gr_pR (k := 7) (v := (some (m + 2))) G (show o < _ by omega)
  replace G := gr_mk (t := 20) (z := 30) G
  replace G := gr_pR (k := 8) (v := (some (m + 3))) G (show o < _ by omega)
  replace G := gr_pI (p := o) (k := 9) (v := (nI 0)) G
  replace G := gr_pI (p := o) (k := 10) (v := (nI 0)) G
  exact G
theorem t_iMom {σ : mvSt} {o m : Nat} {p c : Nat} (G : Gr σ m p c) (H : TB σ) (ho : o < m) (h7 : 7 ≤ o) : TB (iMom o m σ) := by
  replace H := tb_pI (p := o) (k := 0) (v := (-1)) H h7
  replace G := gr_pI (p := o) (k := 0) (v := (-1)) G
  replace H := tb_pI (p := o) (k := 1) (v := (nI 0)) H h7
  replace G := gr_pI (p := o) (k := 1) (v := (nI 0)) G
  replace H := tb_pI (p := o) (k := 2) (v := (nI 0)) H h7
  replace G := gr_pI (p := o) (k := 2) (v := (nI 0)) G
  replace H := tb_pI (p := o) (k := 3) (v := (nI 197)) H h7
  replace G := gr_pI (p := o) (k := 3) (v := (nI 197)) G
  replace H := tb_pI (p := o) (k := 4) (v := (nI 0)) H h7
  replace G := gr_pI (p := o) (k := 4) (v := (nI 0)) G
  replace H := tb_mk (t := 20) (z := 5) H (gr_7 G)
  replace G := gr_mk (t := 20) (z := 5) G
  replace H := tb_pR (p := o) (k := 5) (v := (some (m))) H h7
  replace G := gr_pR (k := 5) (v := (some (m))) G (show o < _ by omega)
  replace H := tb_mk (t := 20) (z := 5) H (gr_7 G)
  replace G := gr_mk (t := 20) (z := 5) G
  replace H := tb_pR (p := o) (k := 6) (v := (some (m + 1))) H h7
  replace G := gr_pR (k := 6) (v := (some (m + 1))) G (show o < _ by omega)
  replace H := tb_mk (t := 20) (z := 5) H (gr_7 G)
  replace G := gr_mk (t := 20) (z := 5) G
  replace H := tb_pR (p := o) (k := 7) (v := (some (m + 2))) H h7
  replace G := gr_pR (k := 7) (v := (some (m + 2))) G (show o < _ by omega)
  replace H := tb_mk (t := 20) (z := 30) H (gr_7 G)
  replace G := gr_mk (t := 20) (z := 30) G
  replace H := tb_pR (p := o) (k := 8) (v := (some (m + 3))) H h7
  replace G := gr_pR (k := 8) (v := (some (m + 3))) G (show o < _ by omega)
  replace H := tb_pI (p := o) (k := 9) (v := (nI 0)) H h7
  replace G := gr_pI (p := o) (k := 9) (v := (nI 0)) G
  replace H := tb_pI (p := o) (k := 10) (v := (nI 0)) H h7
  replace G := gr_pI (p := o) (k := 10) (v := (nI 0)) G
  exact H
theorem f_iMom {σ : mvSt} {o m : Nat} {p c i : Nat} (hm : o < m) (G : Gr σ m p c) (hi : i < m) (hn : i ≠ o) : SameAt i σ (iMom o m σ) := by
  have S : SameAt i σ σ := sa_refl
  have ho : o ≤ o := Nat.le_refl _
  replace S := sa_tr S (sa_pI (p := o) (k := 0) (v := (-1)) hn)
  replace G := gr_pI (p := o) (k := 0) (v := (-1)) G
  replace S := sa_tr S (sa_pI (p := o) (k := 1) (v := (nI 0)) hn)
  replace G := gr_pI (p := o) (k := 1) (v := (nI 0)) G
  replace S := sa_tr S (sa_pI (p := o) (k := 2) (v := (nI 0)) hn)
  replace G := gr_pI (p := o) (k := 2) (v := (nI 0)) G
  replace S := sa_tr S (sa_pI (p := o) (k := 3) (v := (nI 197)) hn)
  replace G := gr_pI (p := o) (k := 3) (v := (nI 197)) G
  replace S := sa_tr S (sa_pI (p := o) (k := 4) (v := (nI 0)) hn)
  replace G := gr_pI (p := o) (k := 4) (v := (nI 0)) G
  replace S := sa_tr S (sa_mk (t := 20) (z := 5) G (by omega))
  replace G := gr_mk (t := 20) (z := 5) G
  replace S := sa_tr S (sa_pR (p := o) (k := 5) (v := (some (m))) hn)
  replace G := gr_pR (p := o) (k := 5) (v := (some (m))) G (by have := hm; omega)
  replace S := sa_tr S (sa_mk (t := 20) (z := 5) G (by omega))
  replace G := gr_mk (t := 20) (z := 5) G
  replace S := sa_tr S (sa_pR (p := o) (k := 6) (v := (some (m + 1))) hn)
  replace G := gr_pR (p := o) (k := 6) (v := (some (m + 1))) G (by have := hm; omega)
  replace S := sa_tr S (sa_mk (t := 20) (z := 5) G (by omega))
  replace G := gr_mk (t := 20) (z := 5) G
  replace S := sa_tr S (sa_pR (p := o) (k := 7) (v := (some (m + 2))) hn)
  replace G := gr_pR (p := o) (k := 7) (v := (some (m + 2))) G (by have := hm; omega)
  replace S := sa_tr S (sa_mk (t := 20) (z := 30) G (by omega))
  replace G := gr_mk (t := 20) (z := 30) G
  replace S := sa_tr S (sa_pR (p := o) (k := 8) (v := (some (m + 3))) hn)
  replace G := gr_pR (p := o) (k := 8) (v := (some (m + 3))) G (by have := hm; omega)
  replace S := sa_tr S (sa_pI (p := o) (k := 9) (v := (nI 0)) hn)
  replace G := gr_pI (p := o) (k := 9) (v := (nI 0)) G
  replace S := sa_tr S (sa_pI (p := o) (k := 10) (v := (nI 0)) hn)
  replace G := gr_pI (p := o) (k := 10) (v := (nI 0)) G
  exact S
def iRck (o m : Nat) (σ : mvSt) : mvSt := (pR (mkS (pR (mkS σ 20 64) (o) 0 (some (m))) 20 11) (o) 1 (some (m + 1)))
theorem e_iRck {σ : mvSt} {o m : Nat} (G : Gr σ m o 7) : avE 0 7 [.ref o] σ (none, iRck o m σ) := by
  show avA _ 7 0 [.ref o] [] _ _
  refine a_aload_0 rfl rfl ?_
  refine a_obj rfl rfl G.2.2.2.2 (Nat.le_of_ble_eq_true rfl) ?_
  refine a_aload_0 rfl rfl ?_
  refine a_bipush (v := (nI 64)) rfl rfl rfl ?_
  refine c_newI (z := 64) rfl rfl rfl (by decide) G.1 ?_
  replace G := gr_mk (t := 20) (z := 64) G
  refine c_putrS rfl rfl G.2.1 rfl ?_
  replace G := gr_pR (k := 0) (v := (some (m))) G G.2.2.1
  refine a_aload_0 rfl rfl ?_
  refine a_bipush (v := (nI 11)) rfl rfl rfl ?_
  refine c_newI (z := 11) rfl rfl rfl (by decide) G.1 ?_
  replace G := gr_mk (t := 20) (z := 11) G
  refine c_putrS rfl rfl G.2.1 rfl ?_
  replace G := gr_pR (k := 1) (v := (some (m + 1))) G G.2.2.1
  exact a_vret rfl rfl
theorem g_iRck {σ : mvSt} {o m : Nat} {p c : Nat} (G : Gr σ m p c) (ho : o < m) : Gr (iRck o m σ) (m + 2) p c := by
  replace G := gr_mk (t := 20) (z := 64) G
  replace G := gr_pR (k := 0) (v := (some (m))) G (show o < _ by omega)
  replace G := gr_mk (t := 20) (z := 11) G
  replace G := gr_pR (k := 1) (v := (some (m + 1))) G (show o < _ by omega)
  exact G
theorem t_iRck {σ : mvSt} {o m : Nat} {p c : Nat} (G : Gr σ m p c) (H : TB σ) (ho : o < m) (h7 : 7 ≤ o) : TB (iRck o m σ) := by
  replace H := tb_mk (t := 20) (z := 64) H (gr_7 G)
  replace G := gr_mk (t := 20) (z := 64) G
  replace H := tb_pR (p := o) (k := 0) (v := (some (m))) H h7
  replace G := gr_pR (k := 0) (v := (some (m))) G (show o < _ by omega)
  replace H := tb_mk (t := 20) (z := 11) H (gr_7 G)
  replace G := gr_mk (t := 20) (z := 11) G
  replace H := tb_pR (p := o) (k := 1) (v := (some (m + 1))) H h7
  replace G := gr_pR (k := 1) (v := (some (m + 1))) G (show o < _ by omega)
  exact H
theorem f_iRck {σ : mvSt} {o m : Nat} {p c i : Nat} (hm : o < m) (G : Gr σ m p c) (hi : i < m) (hn : i ≠ o) : SameAt i σ (iRck o m σ) := by
  have S : SameAt i σ σ := sa_refl
  have ho : o ≤ o := Nat.le_refl _
  replace S := sa_tr S (sa_mk (t := 20) (z := 64) G (by omega))
  replace G := gr_mk (t := 20) (z := 64) G
  replace S := sa_tr S (sa_pR (p := o) (k := 0) (v := (some (m))) hn)
  replace G := gr_pR (p := o) (k := 0) (v := (some (m))) G (by have := hm; omega)
  replace S := sa_tr S (sa_mk (t := 20) (z := 11) G (by omega))
  replace G := gr_mk (t := 20) (z := 11) G
  replace S := sa_tr S (sa_pR (p := o) (k := 1) (v := (some (m + 1))) hn)
  replace G := gr_pR (p := o) (k := 1) (v := (some (m + 1))) G (by have := hm; omega)
  exact S
def iPth (o m : Nat) (σ : mvSt) : mvSt := (pR (mkS (pI (pI σ (o) 0 (nI 1073741823)) (o) 1 (nI 0)) 20 900) (o) 2 (some (m)))
theorem e_iPth {σ : mvSt} {o m : Nat} (G : Gr σ m o 5) : avE 0 3 [.ref o] σ (none, iPth o m σ) := by
  show avA _ 3 0 [.ref o] [] _ _
  refine a_aload_0 rfl rfl ?_
  refine a_obj rfl rfl G.2.2.2.2 (Nat.le_of_ble_eq_true rfl) ?_
  refine a_aload_0 rfl rfl ?_
  refine a_ldc (v := (nI 1073741823)) rfl rfl rfl ?_
  refine c_puti rfl rfl G.2.1 rfl ?_
  replace G := gr_pI (p := o) (k := 0) (v := (nI 1073741823)) G
  refine a_aload_0 rfl rfl ?_
  refine a_iconst (v := (nI 0)) rfl rfl rfl ?_
  refine c_puti rfl rfl G.2.1 rfl ?_
  replace G := gr_pI (p := o) (k := 1) (v := (nI 0)) G
  refine a_aload_0 rfl rfl ?_
  refine a_sipush (v := (nI 900)) rfl rfl rfl ?_
  refine c_newI (z := 900) rfl rfl rfl (by decide) G.1 ?_
  replace G := gr_mk (t := 20) (z := 900) G
  refine c_putrS rfl rfl G.2.1 rfl ?_
  replace G := gr_pR (k := 2) (v := (some (m))) G G.2.2.1
  exact a_vret rfl rfl
theorem g_iPth {σ : mvSt} {o m : Nat} {p c : Nat} (G : Gr σ m p c) (ho : o < m) : Gr (iPth o m σ) (m + 1) p c := by
  replace G := gr_pI (p := o) (k := 0) (v := (nI 1073741823)) G
  replace G := gr_pI (p := o) (k := 1) (v := (nI 0)) G
  replace G := gr_mk (t := 20) (z := 900) G
  replace G := gr_pR (k := 2) (v := (some (m))) G (show o < _ by omega)
  exact G
theorem t_iPth {σ : mvSt} {o m : Nat} {p c : Nat} (G : Gr σ m p c) (H : TB σ) (ho : o < m) (h7 : 7 ≤ o) : TB (iPth o m σ) := by
  replace H := tb_pI (p := o) (k := 0) (v := (nI 1073741823)) H h7
  replace G := gr_pI (p := o) (k := 0) (v := (nI 1073741823)) G
  replace H := tb_pI (p := o) (k := 1) (v := (nI 0)) H h7
  replace G := gr_pI (p := o) (k := 1) (v := (nI 0)) G
  replace H := tb_mk (t := 20) (z := 900) H (gr_7 G)
  replace G := gr_mk (t := 20) (z := 900) G
  replace H := tb_pR (p := o) (k := 2) (v := (some (m))) H h7
  replace G := gr_pR (k := 2) (v := (some (m))) G (show o < _ by omega)
  exact H
theorem f_iPth {σ : mvSt} {o m : Nat} {p c i : Nat} (hm : o < m) (G : Gr σ m p c) (hi : i < m) (hn : i ≠ o) : SameAt i σ (iPth o m σ) := by
  have S : SameAt i σ σ := sa_refl
  have ho : o ≤ o := Nat.le_refl _
  replace S := sa_tr S (sa_pI (p := o) (k := 0) (v := (nI 1073741823)) hn)
  replace G := gr_pI (p := o) (k := 0) (v := (nI 1073741823)) G
  replace S := sa_tr S (sa_pI (p := o) (k := 1) (v := (nI 0)) hn)
  replace G := gr_pI (p := o) (k := 1) (v := (nI 0)) G
  replace S := sa_tr S (sa_mk (t := 20) (z := 900) G (by omega))
  replace G := gr_mk (t := 20) (z := 900) G
  replace S := sa_tr S (sa_pR (p := o) (k := 2) (v := (some (m))) hn)
  replace G := gr_pR (p := o) (k := 2) (v := (some (m))) G (by have := hm; omega)
  exact S
def iRdr (o m : Nat) (σ : mvSt) : mvSt := (pI (pI (pI (pR (pR σ (o) 0 none) (o) 1 none) (o) 2 (nI 0)) (o) 3 (-1)) (o) 4 (-1))
theorem e_iRdr {σ : mvSt} {o m : Nat} (G : Gr σ m o 6) : avE 0 16 [.ref o] σ (none, iRdr o m σ) := by
  show avA _ 16 0 [.ref o] [] _ _
  refine a_aload_0 rfl rfl ?_
  refine a_obj rfl rfl G.2.2.2.2 (Nat.le_of_ble_eq_true rfl) ?_
  refine a_aload_0 rfl rfl ?_
  refine a_null rfl rfl ?_
  refine c_putr (v := none) rfl rfl G.2.1 rfl ?_
  replace G := gr_pR (k := 0) (v := none) G G.2.2.1
  refine a_aload_0 rfl rfl ?_
  refine a_null rfl rfl ?_
  refine c_putr (v := none) rfl rfl G.2.1 rfl ?_
  replace G := gr_pR (k := 1) (v := none) G G.2.2.1
  refine a_aload_0 rfl rfl ?_
  refine a_iconst (v := (nI 0)) rfl rfl rfl ?_
  refine c_puti rfl rfl G.2.1 rfl ?_
  replace G := gr_pI (p := o) (k := 2) (v := (nI 0)) G
  refine a_aload_0 rfl rfl ?_
  refine a_iconst (v := (-1)) rfl rfl rfl ?_
  refine c_puti rfl rfl G.2.1 rfl ?_
  replace G := gr_pI (p := o) (k := 3) (v := (-1)) G
  refine a_aload_0 rfl rfl ?_
  refine a_iconst (v := (-1)) rfl rfl rfl ?_
  refine c_puti rfl rfl G.2.1 rfl ?_
  replace G := gr_pI (p := o) (k := 4) (v := (-1)) G
  exact a_vret rfl rfl
theorem g_iRdr {σ : mvSt} {o m : Nat} {p c : Nat} (G : Gr σ m p c) (ho : o < m) : Gr (iRdr o m σ) (m + 0) p c := by
  replace G := gr_pR (k := 0) (v := none) G (show o < _ by omega)
  replace G := gr_pR (k := 1) (v := none) G (show o < _ by omega)
  replace G := gr_pI (p := o) (k := 2) (v := (nI 0)) G
  replace G := gr_pI (p := o) (k := 3) (v := (-1)) G
  replace G := gr_pI (p := o) (k := 4) (v := (-1)) G
  exact G
theorem t_iRdr {σ : mvSt} {o m : Nat} {p c : Nat} (G : Gr σ m p c) (H : TB σ) (ho : o < m) (h7 : 7 ≤ o) : TB (iRdr o m σ) := by
  replace H := tb_pR (p := o) (k := 0) (v := none) H h7
  replace G := gr_pR (k := 0) (v := none) G (show o < _ by omega)
  replace H := tb_pR (p := o) (k := 1) (v := none) H h7
  replace G := gr_pR (k := 1) (v := none) G (show o < _ by omega)
  replace H := tb_pI (p := o) (k := 2) (v := (nI 0)) H h7
  replace G := gr_pI (p := o) (k := 2) (v := (nI 0)) G
  replace H := tb_pI (p := o) (k := 3) (v := (-1)) H h7
  replace G := gr_pI (p := o) (k := 3) (v := (-1)) G
  replace H := tb_pI (p := o) (k := 4) (v := (-1)) H h7
  replace G := gr_pI (p := o) (k := 4) (v := (-1)) G
  exact H
theorem f_iRdr {σ : mvSt} {o m : Nat} {p c i : Nat} (hm : o < m) (G : Gr σ m p c) (hi : i < m) (hn : i ≠ o) : SameAt i σ (iRdr o m σ) := by
  have S : SameAt i σ σ := sa_refl
  have ho : o ≤ o := Nat.le_refl _
  replace S := sa_tr S (sa_pR (p := o) (k := 0) (v := none) hn)
  replace G := gr_pR (p := o) (k := 0) (v := none) G (by have := hm; omega)
  replace S := sa_tr S (sa_pR (p := o) (k := 1) (v := none) hn)
  replace G := gr_pR (p := o) (k := 1) (v := none) G (by have := hm; omega)
  replace S := sa_tr S (sa_pI (p := o) (k := 2) (v := (nI 0)) hn)
  replace G := gr_pI (p := o) (k := 2) (v := (nI 0)) G
  replace S := sa_tr S (sa_pI (p := o) (k := 3) (v := (-1)) hn)
  replace G := gr_pI (p := o) (k := 3) (v := (-1)) G
  replace S := sa_tr S (sa_pI (p := o) (k := 4) (v := (-1)) hn)
  replace G := gr_pI (p := o) (k := 4) (v := (-1)) G
  exact S
def iSea (o m : Nat) (σ : mvSt) : mvSt := (pI (pI (pR (mkS (pR (mkS (pR (mkS (pR (mkS σ 20 64) (o) 0 (some (m))) 20 64) (o) 1 (some (m + 1))) 20 64) (o) 2 (some (m + 2))) 20 64) (o) 3 (some (m + 3))) (o) 4 (nI 0)) (o) 5 (nI 0))
theorem e_iSea {σ : mvSt} {o m : Nat} (G : Gr σ m o 8) : avE 0 17 [.ref o] σ (none, iSea o m σ) := by
  show avA _ 17 0 [.ref o] [] _ _
  refine a_aload_0 rfl rfl ?_
  refine a_obj rfl rfl G.2.2.2.2 (Nat.le_of_ble_eq_true rfl) ?_
  refine a_aload_0 rfl rfl ?_
  refine a_bipush (v := (nI 64)) rfl rfl rfl ?_
  refine c_newI (z := 64) rfl rfl rfl (by decide) G.1 ?_
  replace G := gr_mk (t := 20) (z := 64) G
  refine c_putrS rfl rfl G.2.1 rfl ?_
  replace G := gr_pR (k := 0) (v := (some (m))) G G.2.2.1
  refine a_aload_0 rfl rfl ?_
  refine a_bipush (v := (nI 64)) rfl rfl rfl ?_
  refine c_newI (z := 64) rfl rfl rfl (by decide) G.1 ?_
  replace G := gr_mk (t := 20) (z := 64) G
  refine c_putrS rfl rfl G.2.1 rfl ?_
  replace G := gr_pR (k := 1) (v := (some (m + 1))) G G.2.2.1
  refine a_aload_0 rfl rfl ?_
  refine a_bipush (v := (nI 64)) rfl rfl rfl ?_
  refine c_newI (z := 64) rfl rfl rfl (by decide) G.1 ?_
  replace G := gr_mk (t := 20) (z := 64) G
  refine c_putrS rfl rfl G.2.1 rfl ?_
  replace G := gr_pR (k := 2) (v := (some (m + 2))) G G.2.2.1
  refine a_aload_0 rfl rfl ?_
  refine a_bipush (v := (nI 64)) rfl rfl rfl ?_
  refine c_newI (z := 64) rfl rfl rfl (by decide) G.1 ?_
  replace G := gr_mk (t := 20) (z := 64) G
  refine c_putrS rfl rfl G.2.1 rfl ?_
  replace G := gr_pR (k := 3) (v := (some (m + 3))) G G.2.2.1
  refine a_aload_0 rfl rfl ?_
  refine a_iconst (v := (nI 0)) rfl rfl rfl ?_
  refine c_puti rfl rfl G.2.1 rfl ?_
  replace G := gr_pI (p := o) (k := 4) (v := (nI 0)) G
  refine a_aload_0 rfl rfl ?_
  refine a_iconst (v := (nI 0)) rfl rfl rfl ?_
  refine c_puti rfl rfl G.2.1 rfl ?_
  replace G := gr_pI (p := o) (k := 5) (v := (nI 0)) G
  exact a_vret rfl rfl
theorem g_iSea {σ : mvSt} {o m : Nat} {p c : Nat} (G : Gr σ m p c) (ho : o < m) : Gr (iSea o m σ) (m + 4) p c := by
  replace G := gr_mk (t := 20) (z := 64) G
  replace G := gr_pR (k := 0) (v := (some (m))) G (show o < _ by omega)
  replace G := gr_mk (t := 20) (z := 64) G
  replace G := gr_pR (k := 1) (v := (some (m + 1))) G (show o < _ by omega)
  replace G := gr_mk (t := 20) (z := 64) G
  replace G := gr_pR (k := 2) (v := (some (m + 2))) G (show o < _ by omega)
  replace G := gr_mk (t := 20) (z := 64) G
  replace G := gr_pR (k := 3) (v := (some (m + 3))) G (show o < _ by omega)
  replace G := gr_pI (p := o) (k := 4) (v := (nI 0)) G
  replace G := gr_pI (p := o) (k := 5) (v := (nI 0)) G
  exact G
theorem t_iSea {σ : mvSt} {o m : Nat} {p c : Nat} (G : Gr σ m p c) (H : TB σ) (ho : o < m) (h7 : 7 ≤ o) : TB (iSea o m σ) := by
  replace H := tb_mk (t := 20) (z := 64) H (gr_7 G)
  replace G := gr_mk (t := 20) (z := 64) G
  replace H := tb_pR (p := o) (k := 0) (v := (some (m))) H h7
  replace G := gr_pR (k := 0) (v := (some (m))) G (show o < _ by omega)
  replace H := tb_mk (t := 20) (z := 64) H (gr_7 G)
  replace G := gr_mk (t := 20) (z := 64) G
  replace H := tb_pR (p := o) (k := 1) (v := (some (m + 1))) H h7
  replace G := gr_pR (k := 1) (v := (some (m + 1))) G (show o < _ by omega)
  replace H := tb_mk (t := 20) (z := 64) H (gr_7 G)
  replace G := gr_mk (t := 20) (z := 64) G
  replace H := tb_pR (p := o) (k := 2) (v := (some (m + 2))) H h7
  replace G := gr_pR (k := 2) (v := (some (m + 2))) G (show o < _ by omega)
  replace H := tb_mk (t := 20) (z := 64) H (gr_7 G)
  replace G := gr_mk (t := 20) (z := 64) G
  replace H := tb_pR (p := o) (k := 3) (v := (some (m + 3))) H h7
  replace G := gr_pR (k := 3) (v := (some (m + 3))) G (show o < _ by omega)
  replace H := tb_pI (p := o) (k := 4) (v := (nI 0)) H h7
  replace G := gr_pI (p := o) (k := 4) (v := (nI 0)) G
  replace H := tb_pI (p := o) (k := 5) (v := (nI 0)) H h7
  replace G := gr_pI (p := o) (k := 5) (v := (nI 0)) G
  exact H
theorem f_iSea {σ : mvSt} {o m : Nat} {p c i : Nat} (hm : o < m) (G : Gr σ m p c) (hi : i < m) (hn : i ≠ o) : SameAt i σ (iSea o m σ) := by
  have S : SameAt i σ σ := sa_refl
  have ho : o ≤ o := Nat.le_refl _
  replace S := sa_tr S (sa_mk (t := 20) (z := 64) G (by omega))
  replace G := gr_mk (t := 20) (z := 64) G
  replace S := sa_tr S (sa_pR (p := o) (k := 0) (v := (some (m))) hn)
  replace G := gr_pR (p := o) (k := 0) (v := (some (m))) G (by have := hm; omega)
  replace S := sa_tr S (sa_mk (t := 20) (z := 64) G (by omega))
  replace G := gr_mk (t := 20) (z := 64) G
  replace S := sa_tr S (sa_pR (p := o) (k := 1) (v := (some (m + 1))) hn)
  replace G := gr_pR (p := o) (k := 1) (v := (some (m + 1))) G (by have := hm; omega)
  replace S := sa_tr S (sa_mk (t := 20) (z := 64) G (by omega))
  replace G := gr_mk (t := 20) (z := 64) G
  replace S := sa_tr S (sa_pR (p := o) (k := 2) (v := (some (m + 2))) hn)
  replace G := gr_pR (p := o) (k := 2) (v := (some (m + 2))) G (by have := hm; omega)
  replace S := sa_tr S (sa_mk (t := 20) (z := 64) G (by omega))
  replace G := gr_mk (t := 20) (z := 64) G
  replace S := sa_tr S (sa_pR (p := o) (k := 3) (v := (some (m + 3))) hn)
  replace G := gr_pR (p := o) (k := 3) (v := (some (m + 3))) G (by have := hm; omega)
  replace S := sa_tr S (sa_pI (p := o) (k := 4) (v := (nI 0)) hn)
  replace G := gr_pI (p := o) (k := 4) (v := (nI 0)) G
  replace S := sa_tr S (sa_pI (p := o) (k := 5) (v := (nI 0)) hn)
  replace G := gr_pI (p := o) (k := 5) (v := (nI 0)) G
  exact S
def iLea (o m : Nat) (σ : mvSt) : mvSt := (pI (pI (pR (mkS σ 20 169) (o) 0 (some (m))) (o) 1 (nI 0)) (o) 2 (nI 0))
theorem e_iLea {σ : mvSt} {o m : Nat} (G : Gr σ m o 2) : avE 0 18 [.ref o] σ (none, iLea o m σ) := by
  show avA _ 18 0 [.ref o] [] _ _
  refine a_aload_0 rfl rfl ?_
  refine a_obj rfl rfl G.2.2.2.2 (Nat.le_of_ble_eq_true rfl) ?_
  refine a_aload_0 rfl rfl ?_
  refine a_sipush (v := (nI 169)) rfl rfl rfl ?_
  refine c_newI (z := 169) rfl rfl rfl (by decide) G.1 ?_
  replace G := gr_mk (t := 20) (z := 169) G
  refine c_putrS rfl rfl G.2.1 rfl ?_
  replace G := gr_pR (k := 0) (v := (some (m))) G G.2.2.1
  refine a_aload_0 rfl rfl ?_
  refine a_iconst (v := (nI 0)) rfl rfl rfl ?_
  refine c_puti rfl rfl G.2.1 rfl ?_
  replace G := gr_pI (p := o) (k := 1) (v := (nI 0)) G
  refine a_aload_0 rfl rfl ?_
  refine a_iconst (v := (nI 0)) rfl rfl rfl ?_
  refine c_puti rfl rfl G.2.1 rfl ?_
  replace G := gr_pI (p := o) (k := 2) (v := (nI 0)) G
  exact a_vret rfl rfl
theorem g_iLea {σ : mvSt} {o m : Nat} {p c : Nat} (G : Gr σ m p c) (ho : o < m) : Gr (iLea o m σ) (m + 1) p c := by
  replace G := gr_mk (t := 20) (z := 169) G
  replace G := gr_pR (k := 0) (v := (some (m))) G (show o < _ by omega)
  replace G := gr_pI (p := o) (k := 1) (v := (nI 0)) G
  replace G := gr_pI (p := o) (k := 2) (v := (nI 0)) G
  exact G
theorem t_iLea {σ : mvSt} {o m : Nat} {p c : Nat} (G : Gr σ m p c) (H : TB σ) (ho : o < m) (h7 : 7 ≤ o) : TB (iLea o m σ) := by
  replace H := tb_mk (t := 20) (z := 169) H (gr_7 G)
  replace G := gr_mk (t := 20) (z := 169) G
  replace H := tb_pR (p := o) (k := 0) (v := (some (m))) H h7
  replace G := gr_pR (k := 0) (v := (some (m))) G (show o < _ by omega)
  replace H := tb_pI (p := o) (k := 1) (v := (nI 0)) H h7
  replace G := gr_pI (p := o) (k := 1) (v := (nI 0)) G
  replace H := tb_pI (p := o) (k := 2) (v := (nI 0)) H h7
  replace G := gr_pI (p := o) (k := 2) (v := (nI 0)) G
  exact H
theorem f_iLea {σ : mvSt} {o m : Nat} {p c i : Nat} (hm : o < m) (G : Gr σ m p c) (hi : i < m) (hn : i ≠ o) : SameAt i σ (iLea o m σ) := by
  have S : SameAt i σ σ := sa_refl
  have ho : o ≤ o := Nat.le_refl _
  replace S := sa_tr S (sa_mk (t := 20) (z := 169) G (by omega))
  replace G := gr_mk (t := 20) (z := 169) G
  replace S := sa_tr S (sa_pR (p := o) (k := 0) (v := (some (m))) hn)
  replace G := gr_pR (p := o) (k := 0) (v := (some (m))) G (by have := hm; omega)
  replace S := sa_tr S (sa_pI (p := o) (k := 1) (v := (nI 0)) hn)
  replace G := gr_pI (p := o) (k := 1) (v := (nI 0)) G
  replace S := sa_tr S (sa_pI (p := o) (k := 2) (v := (nI 0)) hn)
  replace G := gr_pI (p := o) (k := 2) (v := (nI 0)) G
  exact S
theorem flW_up {σ : mvSt} {p i n : Nat} {f : Nat → Int32} (hi : i < n) : flW (pI σ p i (f i)) p (i + 1) n f = flW σ p i n f := by
  show (σ.1, va_up (va_up σ.2.1 p (va_up (σ.2.1 p) i (f i))) p (fun j => if i + 1 ≤ j ∧ j < n then f j else va_up σ.2.1 p (va_up (σ.2.1 p) i (f i)) p j), σ.2.2) = (σ.1, va_up σ.2.1 p (fun j => if i ≤ j ∧ j < n then f j else σ.2.1 p j), σ.2.2)
  congr 2
  funext o
  by_cases e : o = p
  · subst e
    rw [va_up_self, va_up_self]
    funext j
    rw [va_up_self]
    by_cases ej : j = i
    · subst ej
      rw [if_neg (by omega), va_up_self, if_pos (by omega)]
    · rw [va_up_ne _ _ ej]
      by_cases c : i + 1 ≤ j ∧ j < n
      · rw [if_pos c, if_pos (by omega)]
      · rw [if_neg c, if_neg (by omega)]
  · rw [va_up_ne _ _ e, va_up_ne _ _ e, va_up_ne _ _ e]
theorem flW_end {σ : mvSt} {p i n : Nat} {f : Nat → Int32} (hi : n ≤ i) : flW σ p i n f = σ := by
  obtain ⟨me, h, gl, gr⟩ := σ
  show (me, va_up h p (fun j => if i ≤ j ∧ j < n then f j else h p j), gl, gr) = (me, h, gl, gr)
  congr 2
  funext o
  by_cases e : o = p
  · subst e
    rw [va_up_self]
    funext j
    rw [if_neg (by omega)]
  · rw [va_up_ne _ _ e]
theorem l_heights {d o p : Nat} : ∀ (e i : Nat) (σ : mvSt), i + e = 30 → (σ.1.2.2 o).1 = 0 → σ.2.2.2 o 1 = some p → σ.1.2.2 p = (20, 30) → avA d 4 122 [.ref o, .int (nI i)] [] σ (none, flW σ p i 30 (fun _ => nI 5)) := by
  intro e
  induction e with
  | zero =>
    intro i σ hi h1 h2 h3
    obtain rfl : i = 30 := by omega
    rw [flW_end (Nat.le_refl _)]
    refine a_iload_1 rfl rfl ?_
    refine a_bipush (v := (nI 30)) rfl rfl rfl ?_
    refine a_cmpN_ge rfl rfl rfl (by omega) (by omega) (fun _ => ?_) (fun c_125 => False.elim (by omega))
    exact a_vret rfl rfl
  | succ e ih =>
    intro i σ hi h1 h2 h3
    have B := ih (i + 1) (pI σ p i (nI 5)) (by omega) h1 h2 h3
    rw [flW_up (f := fun _ => nI 5) (by omega)] at B
    obtain ⟨me, h, gl, gr⟩ := σ
    refine a_iload_1 rfl rfl ?_
    refine a_bipush (v := (nI 30)) rfl rfl rfl ?_
    refine a_cmpN_ge rfl rfl rfl (by omega) (by omega) (fun c_125 => False.elim (by omega)) (fun _ => ?_)
    refine a_aload_0 rfl rfl ?_
    refine a_getr rfl rfl h1 (fun _ _ _ => rfl) h2 ?_
    refine a_iload_1 rfl rfl ?_
    refine a_iconst (v := (nI 5)) rfl rfl rfl ?_
    refine a_iast rfl rfl h3 rfl (by omega) (by decide) ?_
    refine a_iinc_1 rfl rfl (nI_inc _ _) rfl ?_
    refine a_goto rfl rfl ?_
    exact B
def iHol11 (σ : mvSt) : mvSt := (flW (pI (pI (pR (mkS (pR (iPrs (12 + 17) (12 + 18) 8 (mkS (pR (iPrs (12 + 14) (12 + 15) 8 (mkS (pR (iPrs (12 + 11) (12 + 12) 6 (mkS (pR (iPrs (12 + 8) (12 + 9) 6 (mkS (pI (pI (pR (mkS (pR (iMom (12 + 2) (12 + 3) (mkS (pR (mkS (pR (mkS σ 20 30) (11) 0 (some (12))) 20 30) (11) 1 (some (12 + 1))) 3 11)) (11) 2 (some (12 + 2))) 20 1560) (11) 3 (some (12 + 7))) (11) 4 (nI 0)) (11) 5 (nI 0)) 4 3)) (11) 6 (some (12 + 8))) 4 3)) (11) 7 (some (12 + 11))) 4 3)) (11) 8 (some (12 + 14))) 4 3)) (11) 9 (some (12 + 17))) 20 12) (11) 10 (some (12 + 20))) (11) 11 (-1)) (11) 12 (nI 0)) 13 0 30 (fun _ => nI 5))
theorem e_iHol11 {σ : mvSt} (G : Gr σ (12) 11 0) : avE 1 4 [.ref 11] σ (none, iHol11 σ) := by
  obtain ⟨⟨m, s, sh⟩, h, gl, gr⟩ := σ
  obtain rfl : m = 12 := G.1
  show avA _ 4 0 [.ref 11, mvU] [] _ _
  refine a_aload_0 rfl rfl ?_
  refine a_obj rfl rfl G.2.2.2.2 (Nat.le_of_ble_eq_true rfl) ?_
  refine a_aload_0 rfl rfl ?_
  refine a_bipush (v := (nI 30)) rfl rfl rfl ?_
  refine c_newI (z := 30) rfl rfl rfl (by decide) G.1 ?_
  replace G := gr_mk (t := 20) (z := 30) G
  refine c_putrS rfl rfl G.2.1 rfl ?_
  replace G := gr_pR (k := 0) (v := (some (12))) G G.2.2.1
  refine a_aload_0 rfl rfl ?_
  refine a_bipush (v := (nI 30)) rfl rfl rfl ?_
  refine c_newI (z := 30) rfl rfl rfl (by decide) G.1 ?_
  replace G := gr_mk (t := 20) (z := 30) G
  refine c_putrS rfl rfl G.2.1 rfl ?_
  replace G := gr_pR (k := 1) (v := (some (12 + 1))) G G.2.2.1
  refine a_aload_0 rfl rfl ?_
  refine c_new (z := 11) rfl rfl rfl G.1 ?_
  have Gc := gr_nw (t := 3) (z := 11) G
  replace G := gr_mk (t := 3) (z := 11) G
  refine a_dup rfl rfl rfl ?_
  refine a_spec0 rfl rfl (e_iMom Gc) (Nat.le_of_ble_eq_true rfl) ⟨rfl, rfl, rfl, rfl⟩ rfl rfl rfl (Nat.le_of_ble_eq_true rfl) Gc.2.1 rfl ?_
  replace G := g_iMom (o := 12 + 2) (m := 12 + 3) G Gc.2.2.1
  refine c_putrS rfl rfl G.2.1 rfl ?_
  replace G := gr_pR (k := 2) (v := (some (12 + 2))) G G.2.2.1
  refine a_aload_0 rfl rfl ?_
  refine a_sipush (v := (nI 1560)) rfl rfl rfl ?_
  refine c_newI (z := 1560) rfl rfl rfl (by decide) G.1 ?_
  replace G := gr_mk (t := 20) (z := 1560) G
  refine c_putrS rfl rfl G.2.1 rfl ?_
  replace G := gr_pR (k := 3) (v := (some (12 + 7))) G G.2.2.1
  refine a_aload_0 rfl rfl ?_
  refine a_iconst (v := (nI 0)) rfl rfl rfl ?_
  refine c_puti rfl rfl G.2.1 rfl ?_
  replace G := gr_pI (p := 11) (k := 4) (v := (nI 0)) G
  refine a_aload_0 rfl rfl ?_
  refine a_iconst (v := (nI 0)) rfl rfl rfl ?_
  refine c_puti rfl rfl G.2.1 rfl ?_
  replace G := gr_pI (p := 11) (k := 5) (v := (nI 0)) G
  refine a_aload_0 rfl rfl ?_
  refine c_new (z := 3) rfl rfl rfl G.1 ?_
  have Gc := gr_nw (t := 4) (z := 3) G
  replace G := gr_mk (t := 4) (z := 3) G
  refine a_dup rfl rfl rfl ?_
  refine a_bipush (v := (nI 6)) rfl rfl rfl ?_
  refine a_spec0 rfl rfl (e_iPrs (by decide) Gc) (Nat.le_of_ble_eq_true rfl) ⟨rfl, rfl, rfl, rfl⟩ rfl rfl rfl (Nat.le_of_ble_eq_true rfl) Gc.2.1 rfl ?_
  replace G := g_iPrs (o := 12 + 8) (m := 12 + 9) (q := 6) G Gc.2.2.1
  refine c_putrS rfl rfl G.2.1 rfl ?_
  replace G := gr_pR (k := 6) (v := (some (12 + 8))) G G.2.2.1
  refine a_aload_0 rfl rfl ?_
  refine c_new (z := 3) rfl rfl rfl G.1 ?_
  have Gc := gr_nw (t := 4) (z := 3) G
  replace G := gr_mk (t := 4) (z := 3) G
  refine a_dup rfl rfl rfl ?_
  refine a_bipush (v := (nI 6)) rfl rfl rfl ?_
  refine a_spec0 rfl rfl (e_iPrs (by decide) Gc) (Nat.le_of_ble_eq_true rfl) ⟨rfl, rfl, rfl, rfl⟩ rfl rfl rfl (Nat.le_of_ble_eq_true rfl) Gc.2.1 rfl ?_
  replace G := g_iPrs (o := 12 + 11) (m := 12 + 12) (q := 6) G Gc.2.2.1
  refine c_putrS rfl rfl G.2.1 rfl ?_
  replace G := gr_pR (k := 7) (v := (some (12 + 11))) G G.2.2.1
  refine a_aload_0 rfl rfl ?_
  refine c_new (z := 3) rfl rfl rfl G.1 ?_
  have Gc := gr_nw (t := 4) (z := 3) G
  replace G := gr_mk (t := 4) (z := 3) G
  refine a_dup rfl rfl rfl ?_
  refine a_bipush (v := (nI 8)) rfl rfl rfl ?_
  refine a_spec0 rfl rfl (e_iPrs (by decide) Gc) (Nat.le_of_ble_eq_true rfl) ⟨rfl, rfl, rfl, rfl⟩ rfl rfl rfl (Nat.le_of_ble_eq_true rfl) Gc.2.1 rfl ?_
  replace G := g_iPrs (o := 12 + 14) (m := 12 + 15) (q := 8) G Gc.2.2.1
  refine c_putrS rfl rfl G.2.1 rfl ?_
  replace G := gr_pR (k := 8) (v := (some (12 + 14))) G G.2.2.1
  refine a_aload_0 rfl rfl ?_
  refine c_new (z := 3) rfl rfl rfl G.1 ?_
  have Gc := gr_nw (t := 4) (z := 3) G
  replace G := gr_mk (t := 4) (z := 3) G
  refine a_dup rfl rfl rfl ?_
  refine a_bipush (v := (nI 8)) rfl rfl rfl ?_
  refine a_spec0 rfl rfl (e_iPrs (by decide) Gc) (Nat.le_of_ble_eq_true rfl) ⟨rfl, rfl, rfl, rfl⟩ rfl rfl rfl (Nat.le_of_ble_eq_true rfl) Gc.2.1 rfl ?_
  replace G := g_iPrs (o := 12 + 17) (m := 12 + 18) (q := 8) G Gc.2.2.1
  refine c_putrS rfl rfl G.2.1 rfl ?_
  replace G := gr_pR (k := 9) (v := (some (12 + 17))) G G.2.2.1
  refine a_aload_0 rfl rfl ?_
  refine a_bipush (v := (nI 12)) rfl rfl rfl ?_
  refine c_newI (z := 12) rfl rfl rfl (by decide) G.1 ?_
  replace G := gr_mk (t := 20) (z := 12) G
  refine c_putrS rfl rfl G.2.1 rfl ?_
  replace G := gr_pR (k := 10) (v := (some (12 + 20))) G G.2.2.1
  refine a_aload_0 rfl rfl ?_
  refine a_iconst (v := (-1)) rfl rfl rfl ?_
  refine c_puti rfl rfl G.2.1 rfl ?_
  replace G := gr_pI (p := 11) (k := 11) (v := (-1)) G
  refine a_aload_0 rfl rfl ?_
  refine a_iconst (v := (nI 0)) rfl rfl rfl ?_
  refine c_puti rfl rfl G.2.1 rfl ?_
  replace G := gr_pI (p := 11) (k := 12) (v := (nI 0)) G
  refine a_iconst (v := nI 0) rfl rfl rfl ?_
  refine a_istore_1 rfl rfl rfl ?_
  exact l_heights 30 0 _ rfl G.2.1 rfl rfl
theorem g_iHol11 {σ : mvSt} {p c : Nat} (G : Gr σ (12) p c) (ho : 11 < 12) : Gr (iHol11 σ) (12 + 21) p c := by
  replace G := gr_mk (t := 20) (z := 30) G
  replace G := gr_pR (k := 0) (v := (some (12))) G (show 11 < _ by omega)
  replace G := gr_mk (t := 20) (z := 30) G
  replace G := gr_pR (k := 1) (v := (some (12 + 1))) G (show 11 < _ by omega)
  replace G := gr_mk (t := 3) (z := 11) G
  replace G := g_iMom (o := 12 + 2) (m := 12 + 3) G (by omega)
  replace G := gr_pR (k := 2) (v := (some (12 + 2))) G (show 11 < _ by omega)
  replace G := gr_mk (t := 20) (z := 1560) G
  replace G := gr_pR (k := 3) (v := (some (12 + 7))) G (show 11 < _ by omega)
  replace G := gr_pI (p := 11) (k := 4) (v := (nI 0)) G
  replace G := gr_pI (p := 11) (k := 5) (v := (nI 0)) G
  replace G := gr_mk (t := 4) (z := 3) G
  replace G := g_iPrs (o := 12 + 8) (m := 12 + 9) (q := 6) G (by omega)
  replace G := gr_pR (k := 6) (v := (some (12 + 8))) G (show 11 < _ by omega)
  replace G := gr_mk (t := 4) (z := 3) G
  replace G := g_iPrs (o := 12 + 11) (m := 12 + 12) (q := 6) G (by omega)
  replace G := gr_pR (k := 7) (v := (some (12 + 11))) G (show 11 < _ by omega)
  replace G := gr_mk (t := 4) (z := 3) G
  replace G := g_iPrs (o := 12 + 14) (m := 12 + 15) (q := 8) G (by omega)
  replace G := gr_pR (k := 8) (v := (some (12 + 14))) G (show 11 < _ by omega)
  replace G := gr_mk (t := 4) (z := 3) G
  replace G := g_iPrs (o := 12 + 17) (m := 12 + 18) (q := 8) G (by omega)
  replace G := gr_pR (k := 9) (v := (some (12 + 17))) G (show 11 < _ by omega)
  replace G := gr_mk (t := 20) (z := 12) G
  replace G := gr_pR (k := 10) (v := (some (12 + 20))) G (show 11 < _ by omega)
  replace G := gr_pI (p := 11) (k := 11) (v := (-1)) G
  replace G := gr_pI (p := 11) (k := 12) (v := (nI 0)) G
  exact G
theorem t_iHol11 {σ : mvSt} {p c : Nat} (G : Gr σ (12) p c) (H : TB σ) (ho : 11 < 12) (h7 : 7 ≤ 11) : TB (iHol11 σ) := by
  replace H := tb_mk (t := 20) (z := 30) H (gr_7 G)
  replace G := gr_mk (t := 20) (z := 30) G
  replace H := tb_pR (p := 11) (k := 0) (v := (some (12))) H h7
  replace G := gr_pR (k := 0) (v := (some (12))) G (show 11 < _ by omega)
  replace H := tb_mk (t := 20) (z := 30) H (gr_7 G)
  replace G := gr_mk (t := 20) (z := 30) G
  replace H := tb_pR (p := 11) (k := 1) (v := (some (12 + 1))) H h7
  replace G := gr_pR (k := 1) (v := (some (12 + 1))) G (show 11 < _ by omega)
  replace H := tb_mk (t := 3) (z := 11) H (gr_7 G)
  replace G := gr_mk (t := 3) (z := 11) G
  replace H := t_iMom (o := 12 + 2) (m := 12 + 3) G H (by omega) (by omega)
  replace G := g_iMom (o := 12 + 2) (m := 12 + 3) G (by omega)
  replace H := tb_pR (p := 11) (k := 2) (v := (some (12 + 2))) H h7
  replace G := gr_pR (k := 2) (v := (some (12 + 2))) G (show 11 < _ by omega)
  replace H := tb_mk (t := 20) (z := 1560) H (gr_7 G)
  replace G := gr_mk (t := 20) (z := 1560) G
  replace H := tb_pR (p := 11) (k := 3) (v := (some (12 + 7))) H h7
  replace G := gr_pR (k := 3) (v := (some (12 + 7))) G (show 11 < _ by omega)
  replace H := tb_pI (p := 11) (k := 4) (v := (nI 0)) H h7
  replace G := gr_pI (p := 11) (k := 4) (v := (nI 0)) G
  replace H := tb_pI (p := 11) (k := 5) (v := (nI 0)) H h7
  replace G := gr_pI (p := 11) (k := 5) (v := (nI 0)) G
  replace H := tb_mk (t := 4) (z := 3) H (gr_7 G)
  replace G := gr_mk (t := 4) (z := 3) G
  replace H := t_iPrs (o := 12 + 8) (m := 12 + 9) (q := 6) G H (by omega) (by omega)
  replace G := g_iPrs (o := 12 + 8) (m := 12 + 9) (q := 6) G (by omega)
  replace H := tb_pR (p := 11) (k := 6) (v := (some (12 + 8))) H h7
  replace G := gr_pR (k := 6) (v := (some (12 + 8))) G (show 11 < _ by omega)
  replace H := tb_mk (t := 4) (z := 3) H (gr_7 G)
  replace G := gr_mk (t := 4) (z := 3) G
  replace H := t_iPrs (o := 12 + 11) (m := 12 + 12) (q := 6) G H (by omega) (by omega)
  replace G := g_iPrs (o := 12 + 11) (m := 12 + 12) (q := 6) G (by omega)
  replace H := tb_pR (p := 11) (k := 7) (v := (some (12 + 11))) H h7
  replace G := gr_pR (k := 7) (v := (some (12 + 11))) G (show 11 < _ by omega)
  replace H := tb_mk (t := 4) (z := 3) H (gr_7 G)
  replace G := gr_mk (t := 4) (z := 3) G
  replace H := t_iPrs (o := 12 + 14) (m := 12 + 15) (q := 8) G H (by omega) (by omega)
  replace G := g_iPrs (o := 12 + 14) (m := 12 + 15) (q := 8) G (by omega)
  replace H := tb_pR (p := 11) (k := 8) (v := (some (12 + 14))) H h7
  replace G := gr_pR (k := 8) (v := (some (12 + 14))) G (show 11 < _ by omega)
  replace H := tb_mk (t := 4) (z := 3) H (gr_7 G)
  replace G := gr_mk (t := 4) (z := 3) G
  replace H := t_iPrs (o := 12 + 17) (m := 12 + 18) (q := 8) G H (by omega) (by omega)
  replace G := g_iPrs (o := 12 + 17) (m := 12 + 18) (q := 8) G (by omega)
  replace H := tb_pR (p := 11) (k := 9) (v := (some (12 + 17))) H h7
  replace G := gr_pR (k := 9) (v := (some (12 + 17))) G (show 11 < _ by omega)
  replace H := tb_mk (t := 20) (z := 12) H (gr_7 G)
  replace G := gr_mk (t := 20) (z := 12) G
  replace H := tb_pR (p := 11) (k := 10) (v := (some (12 + 20))) H h7
  replace G := gr_pR (k := 10) (v := (some (12 + 20))) G (show 11 < _ by omega)
  replace H := tb_pI (p := 11) (k := 11) (v := (-1)) H h7
  replace G := gr_pI (p := 11) (k := 11) (v := (-1)) G
  replace H := tb_pI (p := 11) (k := 12) (v := (nI 0)) H h7
  replace G := gr_pI (p := 11) (k := 12) (v := (nI 0)) G
  exact tb_row H (by decide)
theorem f_iHol11 {σ : mvSt} {p c i : Nat} (G : Gr σ (12) p c) (hi : i < 12) (hn : i ≠ 11) : SameAt i σ (iHol11 σ) := by
  have S : SameAt i σ σ := sa_refl
  have ho : 11 ≤ 11 := Nat.le_refl _
  replace S := sa_tr S (sa_mk (t := 20) (z := 30) G (by omega))
  replace G := gr_mk (t := 20) (z := 30) G
  replace S := sa_tr S (sa_pR (p := 11) (k := 0) (v := (some (12))) hn)
  replace G := gr_pR (p := 11) (k := 0) (v := (some (12))) G (by omega)
  replace S := sa_tr S (sa_mk (t := 20) (z := 30) G (by omega))
  replace G := gr_mk (t := 20) (z := 30) G
  replace S := sa_tr S (sa_pR (p := 11) (k := 1) (v := (some (12 + 1))) hn)
  replace G := gr_pR (p := 11) (k := 1) (v := (some (12 + 1))) G (by omega)
  replace S := sa_tr S (sa_mk (t := 3) (z := 11) G (by omega))
  replace G := gr_mk (t := 3) (z := 11) G
  replace S := sa_tr S (f_iMom (o := 12 + 2) (m := 12 + 3) (by omega) G (by omega) (by omega))
  replace G := g_iMom (o := 12 + 2) (m := 12 + 3) G (by omega)
  replace S := sa_tr S (sa_pR (p := 11) (k := 2) (v := (some (12 + 2))) hn)
  replace G := gr_pR (p := 11) (k := 2) (v := (some (12 + 2))) G (by omega)
  replace S := sa_tr S (sa_mk (t := 20) (z := 1560) G (by omega))
  replace G := gr_mk (t := 20) (z := 1560) G
  replace S := sa_tr S (sa_pR (p := 11) (k := 3) (v := (some (12 + 7))) hn)
  replace G := gr_pR (p := 11) (k := 3) (v := (some (12 + 7))) G (by omega)
  replace S := sa_tr S (sa_pI (p := 11) (k := 4) (v := (nI 0)) hn)
  replace G := gr_pI (p := 11) (k := 4) (v := (nI 0)) G
  replace S := sa_tr S (sa_pI (p := 11) (k := 5) (v := (nI 0)) hn)
  replace G := gr_pI (p := 11) (k := 5) (v := (nI 0)) G
  replace S := sa_tr S (sa_mk (t := 4) (z := 3) G (by omega))
  replace G := gr_mk (t := 4) (z := 3) G
  replace S := sa_tr S (f_iPrs (o := 12 + 8) (m := 12 + 9) (q := 6) (by omega) G (by omega) (by omega))
  replace G := g_iPrs (o := 12 + 8) (m := 12 + 9) (q := 6) G (by omega)
  replace S := sa_tr S (sa_pR (p := 11) (k := 6) (v := (some (12 + 8))) hn)
  replace G := gr_pR (p := 11) (k := 6) (v := (some (12 + 8))) G (by omega)
  replace S := sa_tr S (sa_mk (t := 4) (z := 3) G (by omega))
  replace G := gr_mk (t := 4) (z := 3) G
  replace S := sa_tr S (f_iPrs (o := 12 + 11) (m := 12 + 12) (q := 6) (by omega) G (by omega) (by omega))
  replace G := g_iPrs (o := 12 + 11) (m := 12 + 12) (q := 6) G (by omega)
  replace S := sa_tr S (sa_pR (p := 11) (k := 7) (v := (some (12 + 11))) hn)
  replace G := gr_pR (p := 11) (k := 7) (v := (some (12 + 11))) G (by omega)
  replace S := sa_tr S (sa_mk (t := 4) (z := 3) G (by omega))
  replace G := gr_mk (t := 4) (z := 3) G
  replace S := sa_tr S (f_iPrs (o := 12 + 14) (m := 12 + 15) (q := 8) (by omega) G (by omega) (by omega))
  replace G := g_iPrs (o := 12 + 14) (m := 12 + 15) (q := 8) G (by omega)
  replace S := sa_tr S (sa_pR (p := 11) (k := 8) (v := (some (12 + 14))) hn)
  replace G := gr_pR (p := 11) (k := 8) (v := (some (12 + 14))) G (by omega)
  replace S := sa_tr S (sa_mk (t := 4) (z := 3) G (by omega))
  replace G := gr_mk (t := 4) (z := 3) G
  replace S := sa_tr S (f_iPrs (o := 12 + 17) (m := 12 + 18) (q := 8) (by omega) G (by omega) (by omega))
  replace G := g_iPrs (o := 12 + 17) (m := 12 + 18) (q := 8) G (by omega)
  replace S := sa_tr S (sa_pR (p := 11) (k := 9) (v := (some (12 + 17))) hn)
  replace G := gr_pR (p := 11) (k := 9) (v := (some (12 + 17))) G (by omega)
  replace S := sa_tr S (sa_mk (t := 20) (z := 12) G (by omega))
  replace G := gr_mk (t := 20) (z := 12) G
  replace S := sa_tr S (sa_pR (p := 11) (k := 10) (v := (some (12 + 20))) hn)
  replace G := gr_pR (p := 11) (k := 10) (v := (some (12 + 20))) G (by omega)
  replace S := sa_tr S (sa_pI (p := 11) (k := 11) (v := (-1)) hn)
  replace G := gr_pI (p := 11) (k := 11) (v := (-1)) G
  replace S := sa_tr S (sa_pI (p := 11) (k := 12) (v := (nI 0)) hn)
  replace G := gr_pI (p := 11) (k := 12) (v := (nI 0)) G
  exact sa_tr S (sa_row (by omega))
def iHol40 (σ : mvSt) : mvSt := (flW (pI (pI (pR (mkS (pR (iPrs (41 + 17) (41 + 18) 8 (mkS (pR (iPrs (41 + 14) (41 + 15) 8 (mkS (pR (iPrs (41 + 11) (41 + 12) 6 (mkS (pR (iPrs (41 + 8) (41 + 9) 6 (mkS (pI (pI (pR (mkS (pR (iMom (41 + 2) (41 + 3) (mkS (pR (mkS (pR (mkS σ 20 30) (40) 0 (some (41))) 20 30) (40) 1 (some (41 + 1))) 3 11)) (40) 2 (some (41 + 2))) 20 1560) (40) 3 (some (41 + 7))) (40) 4 (nI 0)) (40) 5 (nI 0)) 4 3)) (40) 6 (some (41 + 8))) 4 3)) (40) 7 (some (41 + 11))) 4 3)) (40) 8 (some (41 + 14))) 4 3)) (40) 9 (some (41 + 17))) 20 12) (40) 10 (some (41 + 20))) (40) 11 (-1)) (40) 12 (nI 0)) 42 0 30 (fun _ => nI 5))
theorem e_iHol40 {σ : mvSt} (G : Gr σ (41) 40 0) : avE 1 4 [.ref 40] σ (none, iHol40 σ) := by
  obtain ⟨⟨m, s, sh⟩, h, gl, gr⟩ := σ
  obtain rfl : m = 41 := G.1
  show avA _ 4 0 [.ref 40, mvU] [] _ _
  refine a_aload_0 rfl rfl ?_
  refine a_obj rfl rfl G.2.2.2.2 (Nat.le_of_ble_eq_true rfl) ?_
  refine a_aload_0 rfl rfl ?_
  refine a_bipush (v := (nI 30)) rfl rfl rfl ?_
  refine c_newI (z := 30) rfl rfl rfl (by decide) G.1 ?_
  replace G := gr_mk (t := 20) (z := 30) G
  refine c_putrS rfl rfl G.2.1 rfl ?_
  replace G := gr_pR (k := 0) (v := (some (41))) G G.2.2.1
  refine a_aload_0 rfl rfl ?_
  refine a_bipush (v := (nI 30)) rfl rfl rfl ?_
  refine c_newI (z := 30) rfl rfl rfl (by decide) G.1 ?_
  replace G := gr_mk (t := 20) (z := 30) G
  refine c_putrS rfl rfl G.2.1 rfl ?_
  replace G := gr_pR (k := 1) (v := (some (41 + 1))) G G.2.2.1
  refine a_aload_0 rfl rfl ?_
  refine c_new (z := 11) rfl rfl rfl G.1 ?_
  have Gc := gr_nw (t := 3) (z := 11) G
  replace G := gr_mk (t := 3) (z := 11) G
  refine a_dup rfl rfl rfl ?_
  refine a_spec0 rfl rfl (e_iMom Gc) (Nat.le_of_ble_eq_true rfl) ⟨rfl, rfl, rfl, rfl⟩ rfl rfl rfl (Nat.le_of_ble_eq_true rfl) Gc.2.1 rfl ?_
  replace G := g_iMom (o := 41 + 2) (m := 41 + 3) G Gc.2.2.1
  refine c_putrS rfl rfl G.2.1 rfl ?_
  replace G := gr_pR (k := 2) (v := (some (41 + 2))) G G.2.2.1
  refine a_aload_0 rfl rfl ?_
  refine a_sipush (v := (nI 1560)) rfl rfl rfl ?_
  refine c_newI (z := 1560) rfl rfl rfl (by decide) G.1 ?_
  replace G := gr_mk (t := 20) (z := 1560) G
  refine c_putrS rfl rfl G.2.1 rfl ?_
  replace G := gr_pR (k := 3) (v := (some (41 + 7))) G G.2.2.1
  refine a_aload_0 rfl rfl ?_
  refine a_iconst (v := (nI 0)) rfl rfl rfl ?_
  refine c_puti rfl rfl G.2.1 rfl ?_
  replace G := gr_pI (p := 40) (k := 4) (v := (nI 0)) G
  refine a_aload_0 rfl rfl ?_
  refine a_iconst (v := (nI 0)) rfl rfl rfl ?_
  refine c_puti rfl rfl G.2.1 rfl ?_
  replace G := gr_pI (p := 40) (k := 5) (v := (nI 0)) G
  refine a_aload_0 rfl rfl ?_
  refine c_new (z := 3) rfl rfl rfl G.1 ?_
  have Gc := gr_nw (t := 4) (z := 3) G
  replace G := gr_mk (t := 4) (z := 3) G
  refine a_dup rfl rfl rfl ?_
  refine a_bipush (v := (nI 6)) rfl rfl rfl ?_
  refine a_spec0 rfl rfl (e_iPrs (by decide) Gc) (Nat.le_of_ble_eq_true rfl) ⟨rfl, rfl, rfl, rfl⟩ rfl rfl rfl (Nat.le_of_ble_eq_true rfl) Gc.2.1 rfl ?_
  replace G := g_iPrs (o := 41 + 8) (m := 41 + 9) (q := 6) G Gc.2.2.1
  refine c_putrS rfl rfl G.2.1 rfl ?_
  replace G := gr_pR (k := 6) (v := (some (41 + 8))) G G.2.2.1
  refine a_aload_0 rfl rfl ?_
  refine c_new (z := 3) rfl rfl rfl G.1 ?_
  have Gc := gr_nw (t := 4) (z := 3) G
  replace G := gr_mk (t := 4) (z := 3) G
  refine a_dup rfl rfl rfl ?_
  refine a_bipush (v := (nI 6)) rfl rfl rfl ?_
  refine a_spec0 rfl rfl (e_iPrs (by decide) Gc) (Nat.le_of_ble_eq_true rfl) ⟨rfl, rfl, rfl, rfl⟩ rfl rfl rfl (Nat.le_of_ble_eq_true rfl) Gc.2.1 rfl ?_
  replace G := g_iPrs (o := 41 + 11) (m := 41 + 12) (q := 6) G Gc.2.2.1
  refine c_putrS rfl rfl G.2.1 rfl ?_
  replace G := gr_pR (k := 7) (v := (some (41 + 11))) G G.2.2.1
  refine a_aload_0 rfl rfl ?_
  refine c_new (z := 3) rfl rfl rfl G.1 ?_
  have Gc := gr_nw (t := 4) (z := 3) G
  replace G := gr_mk (t := 4) (z := 3) G
  refine a_dup rfl rfl rfl ?_
  refine a_bipush (v := (nI 8)) rfl rfl rfl ?_
  refine a_spec0 rfl rfl (e_iPrs (by decide) Gc) (Nat.le_of_ble_eq_true rfl) ⟨rfl, rfl, rfl, rfl⟩ rfl rfl rfl (Nat.le_of_ble_eq_true rfl) Gc.2.1 rfl ?_
  replace G := g_iPrs (o := 41 + 14) (m := 41 + 15) (q := 8) G Gc.2.2.1
  refine c_putrS rfl rfl G.2.1 rfl ?_
  replace G := gr_pR (k := 8) (v := (some (41 + 14))) G G.2.2.1
  refine a_aload_0 rfl rfl ?_
  refine c_new (z := 3) rfl rfl rfl G.1 ?_
  have Gc := gr_nw (t := 4) (z := 3) G
  replace G := gr_mk (t := 4) (z := 3) G
  refine a_dup rfl rfl rfl ?_
  refine a_bipush (v := (nI 8)) rfl rfl rfl ?_
  refine a_spec0 rfl rfl (e_iPrs (by decide) Gc) (Nat.le_of_ble_eq_true rfl) ⟨rfl, rfl, rfl, rfl⟩ rfl rfl rfl (Nat.le_of_ble_eq_true rfl) Gc.2.1 rfl ?_
  replace G := g_iPrs (o := 41 + 17) (m := 41 + 18) (q := 8) G Gc.2.2.1
  refine c_putrS rfl rfl G.2.1 rfl ?_
  replace G := gr_pR (k := 9) (v := (some (41 + 17))) G G.2.2.1
  refine a_aload_0 rfl rfl ?_
  refine a_bipush (v := (nI 12)) rfl rfl rfl ?_
  refine c_newI (z := 12) rfl rfl rfl (by decide) G.1 ?_
  replace G := gr_mk (t := 20) (z := 12) G
  refine c_putrS rfl rfl G.2.1 rfl ?_
  replace G := gr_pR (k := 10) (v := (some (41 + 20))) G G.2.2.1
  refine a_aload_0 rfl rfl ?_
  refine a_iconst (v := (-1)) rfl rfl rfl ?_
  refine c_puti rfl rfl G.2.1 rfl ?_
  replace G := gr_pI (p := 40) (k := 11) (v := (-1)) G
  refine a_aload_0 rfl rfl ?_
  refine a_iconst (v := (nI 0)) rfl rfl rfl ?_
  refine c_puti rfl rfl G.2.1 rfl ?_
  replace G := gr_pI (p := 40) (k := 12) (v := (nI 0)) G
  refine a_iconst (v := nI 0) rfl rfl rfl ?_
  refine a_istore_1 rfl rfl rfl ?_
  exact l_heights 30 0 _ rfl G.2.1 rfl rfl
theorem g_iHol40 {σ : mvSt} {p c : Nat} (G : Gr σ (41) p c) (ho : 40 < 41) : Gr (iHol40 σ) (41 + 21) p c := by
  replace G := gr_mk (t := 20) (z := 30) G
  replace G := gr_pR (k := 0) (v := (some (41))) G (show 40 < _ by omega)
  replace G := gr_mk (t := 20) (z := 30) G
  replace G := gr_pR (k := 1) (v := (some (41 + 1))) G (show 40 < _ by omega)
  replace G := gr_mk (t := 3) (z := 11) G
  replace G := g_iMom (o := 41 + 2) (m := 41 + 3) G (by omega)
  replace G := gr_pR (k := 2) (v := (some (41 + 2))) G (show 40 < _ by omega)
  replace G := gr_mk (t := 20) (z := 1560) G
  replace G := gr_pR (k := 3) (v := (some (41 + 7))) G (show 40 < _ by omega)
  replace G := gr_pI (p := 40) (k := 4) (v := (nI 0)) G
  replace G := gr_pI (p := 40) (k := 5) (v := (nI 0)) G
  replace G := gr_mk (t := 4) (z := 3) G
  replace G := g_iPrs (o := 41 + 8) (m := 41 + 9) (q := 6) G (by omega)
  replace G := gr_pR (k := 6) (v := (some (41 + 8))) G (show 40 < _ by omega)
  replace G := gr_mk (t := 4) (z := 3) G
  replace G := g_iPrs (o := 41 + 11) (m := 41 + 12) (q := 6) G (by omega)
  replace G := gr_pR (k := 7) (v := (some (41 + 11))) G (show 40 < _ by omega)
  replace G := gr_mk (t := 4) (z := 3) G
  replace G := g_iPrs (o := 41 + 14) (m := 41 + 15) (q := 8) G (by omega)
  replace G := gr_pR (k := 8) (v := (some (41 + 14))) G (show 40 < _ by omega)
  replace G := gr_mk (t := 4) (z := 3) G
  replace G := g_iPrs (o := 41 + 17) (m := 41 + 18) (q := 8) G (by omega)
  replace G := gr_pR (k := 9) (v := (some (41 + 17))) G (show 40 < _ by omega)
  replace G := gr_mk (t := 20) (z := 12) G
  replace G := gr_pR (k := 10) (v := (some (41 + 20))) G (show 40 < _ by omega)
  replace G := gr_pI (p := 40) (k := 11) (v := (-1)) G
  replace G := gr_pI (p := 40) (k := 12) (v := (nI 0)) G
  exact G
theorem t_iHol40 {σ : mvSt} {p c : Nat} (G : Gr σ (41) p c) (H : TB σ) (ho : 40 < 41) (h7 : 7 ≤ 40) : TB (iHol40 σ) := by
  replace H := tb_mk (t := 20) (z := 30) H (gr_7 G)
  replace G := gr_mk (t := 20) (z := 30) G
  replace H := tb_pR (p := 40) (k := 0) (v := (some (41))) H h7
  replace G := gr_pR (k := 0) (v := (some (41))) G (show 40 < _ by omega)
  replace H := tb_mk (t := 20) (z := 30) H (gr_7 G)
  replace G := gr_mk (t := 20) (z := 30) G
  replace H := tb_pR (p := 40) (k := 1) (v := (some (41 + 1))) H h7
  replace G := gr_pR (k := 1) (v := (some (41 + 1))) G (show 40 < _ by omega)
  replace H := tb_mk (t := 3) (z := 11) H (gr_7 G)
  replace G := gr_mk (t := 3) (z := 11) G
  replace H := t_iMom (o := 41 + 2) (m := 41 + 3) G H (by omega) (by omega)
  replace G := g_iMom (o := 41 + 2) (m := 41 + 3) G (by omega)
  replace H := tb_pR (p := 40) (k := 2) (v := (some (41 + 2))) H h7
  replace G := gr_pR (k := 2) (v := (some (41 + 2))) G (show 40 < _ by omega)
  replace H := tb_mk (t := 20) (z := 1560) H (gr_7 G)
  replace G := gr_mk (t := 20) (z := 1560) G
  replace H := tb_pR (p := 40) (k := 3) (v := (some (41 + 7))) H h7
  replace G := gr_pR (k := 3) (v := (some (41 + 7))) G (show 40 < _ by omega)
  replace H := tb_pI (p := 40) (k := 4) (v := (nI 0)) H h7
  replace G := gr_pI (p := 40) (k := 4) (v := (nI 0)) G
  replace H := tb_pI (p := 40) (k := 5) (v := (nI 0)) H h7
  replace G := gr_pI (p := 40) (k := 5) (v := (nI 0)) G
  replace H := tb_mk (t := 4) (z := 3) H (gr_7 G)
  replace G := gr_mk (t := 4) (z := 3) G
  replace H := t_iPrs (o := 41 + 8) (m := 41 + 9) (q := 6) G H (by omega) (by omega)
  replace G := g_iPrs (o := 41 + 8) (m := 41 + 9) (q := 6) G (by omega)
  replace H := tb_pR (p := 40) (k := 6) (v := (some (41 + 8))) H h7
  replace G := gr_pR (k := 6) (v := (some (41 + 8))) G (show 40 < _ by omega)
  replace H := tb_mk (t := 4) (z := 3) H (gr_7 G)
  replace G := gr_mk (t := 4) (z := 3) G
  replace H := t_iPrs (o := 41 + 11) (m := 41 + 12) (q := 6) G H (by omega) (by omega)
  replace G := g_iPrs (o := 41 + 11) (m := 41 + 12) (q := 6) G (by omega)
  replace H := tb_pR (p := 40) (k := 7) (v := (some (41 + 11))) H h7
  replace G := gr_pR (k := 7) (v := (some (41 + 11))) G (show 40 < _ by omega)
  replace H := tb_mk (t := 4) (z := 3) H (gr_7 G)
  replace G := gr_mk (t := 4) (z := 3) G
  replace H := t_iPrs (o := 41 + 14) (m := 41 + 15) (q := 8) G H (by omega) (by omega)
  replace G := g_iPrs (o := 41 + 14) (m := 41 + 15) (q := 8) G (by omega)
  replace H := tb_pR (p := 40) (k := 8) (v := (some (41 + 14))) H h7
  replace G := gr_pR (k := 8) (v := (some (41 + 14))) G (show 40 < _ by omega)
  replace H := tb_mk (t := 4) (z := 3) H (gr_7 G)
  replace G := gr_mk (t := 4) (z := 3) G
  replace H := t_iPrs (o := 41 + 17) (m := 41 + 18) (q := 8) G H (by omega) (by omega)
  replace G := g_iPrs (o := 41 + 17) (m := 41 + 18) (q := 8) G (by omega)
  replace H := tb_pR (p := 40) (k := 9) (v := (some (41 + 17))) H h7
  replace G := gr_pR (k := 9) (v := (some (41 + 17))) G (show 40 < _ by omega)
  replace H := tb_mk (t := 20) (z := 12) H (gr_7 G)
  replace G := gr_mk (t := 20) (z := 12) G
  replace H := tb_pR (p := 40) (k := 10) (v := (some (41 + 20))) H h7
  replace G := gr_pR (k := 10) (v := (some (41 + 20))) G (show 40 < _ by omega)
  replace H := tb_pI (p := 40) (k := 11) (v := (-1)) H h7
  replace G := gr_pI (p := 40) (k := 11) (v := (-1)) G
  replace H := tb_pI (p := 40) (k := 12) (v := (nI 0)) H h7
  replace G := gr_pI (p := 40) (k := 12) (v := (nI 0)) G
  exact tb_row H (by decide)
theorem f_iHol40 {σ : mvSt} {p c i : Nat} (G : Gr σ (41) p c) (hi : i < 41) (hn : i ≠ 40) : SameAt i σ (iHol40 σ) := by
  have S : SameAt i σ σ := sa_refl
  have ho : 40 ≤ 40 := Nat.le_refl _
  replace S := sa_tr S (sa_mk (t := 20) (z := 30) G (by omega))
  replace G := gr_mk (t := 20) (z := 30) G
  replace S := sa_tr S (sa_pR (p := 40) (k := 0) (v := (some (41))) hn)
  replace G := gr_pR (p := 40) (k := 0) (v := (some (41))) G (by omega)
  replace S := sa_tr S (sa_mk (t := 20) (z := 30) G (by omega))
  replace G := gr_mk (t := 20) (z := 30) G
  replace S := sa_tr S (sa_pR (p := 40) (k := 1) (v := (some (41 + 1))) hn)
  replace G := gr_pR (p := 40) (k := 1) (v := (some (41 + 1))) G (by omega)
  replace S := sa_tr S (sa_mk (t := 3) (z := 11) G (by omega))
  replace G := gr_mk (t := 3) (z := 11) G
  replace S := sa_tr S (f_iMom (o := 41 + 2) (m := 41 + 3) (by omega) G (by omega) (by omega))
  replace G := g_iMom (o := 41 + 2) (m := 41 + 3) G (by omega)
  replace S := sa_tr S (sa_pR (p := 40) (k := 2) (v := (some (41 + 2))) hn)
  replace G := gr_pR (p := 40) (k := 2) (v := (some (41 + 2))) G (by omega)
  replace S := sa_tr S (sa_mk (t := 20) (z := 1560) G (by omega))
  replace G := gr_mk (t := 20) (z := 1560) G
  replace S := sa_tr S (sa_pR (p := 40) (k := 3) (v := (some (41 + 7))) hn)
  replace G := gr_pR (p := 40) (k := 3) (v := (some (41 + 7))) G (by omega)
  replace S := sa_tr S (sa_pI (p := 40) (k := 4) (v := (nI 0)) hn)
  replace G := gr_pI (p := 40) (k := 4) (v := (nI 0)) G
  replace S := sa_tr S (sa_pI (p := 40) (k := 5) (v := (nI 0)) hn)
  replace G := gr_pI (p := 40) (k := 5) (v := (nI 0)) G
  replace S := sa_tr S (sa_mk (t := 4) (z := 3) G (by omega))
  replace G := gr_mk (t := 4) (z := 3) G
  replace S := sa_tr S (f_iPrs (o := 41 + 8) (m := 41 + 9) (q := 6) (by omega) G (by omega) (by omega))
  replace G := g_iPrs (o := 41 + 8) (m := 41 + 9) (q := 6) G (by omega)
  replace S := sa_tr S (sa_pR (p := 40) (k := 6) (v := (some (41 + 8))) hn)
  replace G := gr_pR (p := 40) (k := 6) (v := (some (41 + 8))) G (by omega)
  replace S := sa_tr S (sa_mk (t := 4) (z := 3) G (by omega))
  replace G := gr_mk (t := 4) (z := 3) G
  replace S := sa_tr S (f_iPrs (o := 41 + 11) (m := 41 + 12) (q := 6) (by omega) G (by omega) (by omega))
  replace G := g_iPrs (o := 41 + 11) (m := 41 + 12) (q := 6) G (by omega)
  replace S := sa_tr S (sa_pR (p := 40) (k := 7) (v := (some (41 + 11))) hn)
  replace G := gr_pR (p := 40) (k := 7) (v := (some (41 + 11))) G (by omega)
  replace S := sa_tr S (sa_mk (t := 4) (z := 3) G (by omega))
  replace G := gr_mk (t := 4) (z := 3) G
  replace S := sa_tr S (f_iPrs (o := 41 + 14) (m := 41 + 15) (q := 8) (by omega) G (by omega) (by omega))
  replace G := g_iPrs (o := 41 + 14) (m := 41 + 15) (q := 8) G (by omega)
  replace S := sa_tr S (sa_pR (p := 40) (k := 8) (v := (some (41 + 14))) hn)
  replace G := gr_pR (p := 40) (k := 8) (v := (some (41 + 14))) G (by omega)
  replace S := sa_tr S (sa_mk (t := 4) (z := 3) G (by omega))
  replace G := gr_mk (t := 4) (z := 3) G
  replace S := sa_tr S (f_iPrs (o := 41 + 17) (m := 41 + 18) (q := 8) (by omega) G (by omega) (by omega))
  replace G := g_iPrs (o := 41 + 17) (m := 41 + 18) (q := 8) G (by omega)
  replace S := sa_tr S (sa_pR (p := 40) (k := 9) (v := (some (41 + 17))) hn)
  replace G := gr_pR (p := 40) (k := 9) (v := (some (41 + 17))) G (by omega)
  replace S := sa_tr S (sa_mk (t := 20) (z := 12) G (by omega))
  replace G := gr_mk (t := 20) (z := 12) G
  replace S := sa_tr S (sa_pR (p := 40) (k := 10) (v := (some (41 + 20))) hn)
  replace G := gr_pR (p := 40) (k := 10) (v := (some (41 + 20))) G (by omega)
  replace S := sa_tr S (sa_pI (p := 40) (k := 11) (v := (-1)) hn)
  replace G := gr_pI (p := 40) (k := 11) (v := (-1)) G
  replace S := sa_tr S (sa_pI (p := 40) (k := 12) (v := (nI 0)) hn)
  replace G := gr_pI (p := 40) (k := 12) (v := (nI 0)) G
  exact sa_tr S (sa_row (by omega))
def iLws (σ : mvSt) : mvSt := (pI (pR (mkS (pI (pI (pI (pR (pR (iRck (9 + 27) (9 + 28) (mkS (pR (iRck (9 + 24) (9 + 25) (mkS (pR (iHol11 (mkS (pR (iPth (9) (9 + 1) (mkS σ 5 3)) (8) 0 (some (9))) 0 13)) (8) 1 (some (9 + 2))) 7 2)) (8) 2 (some (9 + 24))) 7 2)) (8) 3 (some (9 + 27))) (8) 4 none) (8) 5 (-1)) (8) 6 (nI 0)) (8) 7 (nI 0)) 20 900) (8) 8 (some (9 + 30))) (8) 9 (nI 1))
theorem e_iLws {σ : mvSt} (G : Gr σ (9) 8 1) : avE 2 2 [.ref 8] σ (none, iLws σ) := by
  obtain ⟨⟨m, s, sh⟩, h, gl, gr⟩ := σ
  obtain rfl : m = 9 := G.1
  show avA _ 2 0 [.ref 8] [] _ _
  refine a_aload_0 rfl rfl ?_
  refine a_obj rfl rfl G.2.2.2.2 (Nat.le_of_ble_eq_true rfl) ?_
  refine a_aload_0 rfl rfl ?_
  refine c_new (z := 3) rfl rfl rfl G.1 ?_
  have Gc := gr_nw (t := 5) (z := 3) G
  replace G := gr_mk (t := 5) (z := 3) G
  refine a_dup rfl rfl rfl ?_
  refine a_spec0 rfl rfl (e_iPth Gc) (Nat.le_of_ble_eq_true rfl) ⟨rfl, rfl, rfl, rfl⟩ rfl rfl rfl (Nat.le_of_ble_eq_true rfl) Gc.2.1 rfl ?_
  replace G := g_iPth (o := 9) (m := 9 + 1) G Gc.2.2.1
  refine c_putrS rfl rfl G.2.1 rfl ?_
  replace G := gr_pR (k := 0) (v := (some (9))) G G.2.2.1
  refine a_aload_0 rfl rfl ?_
  refine c_new (z := 13) rfl rfl rfl G.1 ?_
  have Gc := gr_nw (t := 0) (z := 13) G
  replace G := gr_mk (t := 0) (z := 13) G
  refine a_dup rfl rfl rfl ?_
  refine a_spec0 rfl rfl (e_iHol11 Gc) (Nat.le_of_ble_eq_true rfl) ⟨rfl, rfl, rfl, rfl⟩ rfl rfl rfl (Nat.le_of_ble_eq_true rfl) Gc.2.1 rfl ?_
  replace G := g_iHol11 G Gc.2.2.1
  refine c_putrS rfl rfl G.2.1 rfl ?_
  replace G := gr_pR (k := 1) (v := (some (9 + 2))) G G.2.2.1
  refine a_aload_0 rfl rfl ?_
  refine c_new (z := 2) rfl rfl rfl G.1 ?_
  have Gc := gr_nw (t := 7) (z := 2) G
  replace G := gr_mk (t := 7) (z := 2) G
  refine a_dup rfl rfl rfl ?_
  refine a_spec0 rfl rfl (e_iRck Gc) (Nat.le_of_ble_eq_true rfl) ⟨rfl, rfl, rfl, rfl⟩ rfl rfl rfl (Nat.le_of_ble_eq_true rfl) Gc.2.1 rfl ?_
  replace G := g_iRck (o := 9 + 24) (m := 9 + 25) G Gc.2.2.1
  refine c_putrS rfl rfl G.2.1 rfl ?_
  replace G := gr_pR (k := 2) (v := (some (9 + 24))) G G.2.2.1
  refine a_aload_0 rfl rfl ?_
  refine c_new (z := 2) rfl rfl rfl G.1 ?_
  have Gc := gr_nw (t := 7) (z := 2) G
  replace G := gr_mk (t := 7) (z := 2) G
  refine a_dup rfl rfl rfl ?_
  refine a_spec0 rfl rfl (e_iRck Gc) (Nat.le_of_ble_eq_true rfl) ⟨rfl, rfl, rfl, rfl⟩ rfl rfl rfl (Nat.le_of_ble_eq_true rfl) Gc.2.1 rfl ?_
  replace G := g_iRck (o := 9 + 27) (m := 9 + 28) G Gc.2.2.1
  refine c_putrS rfl rfl G.2.1 rfl ?_
  replace G := gr_pR (k := 3) (v := (some (9 + 27))) G G.2.2.1
  refine a_aload_0 rfl rfl ?_
  refine a_null rfl rfl ?_
  refine c_putr (v := none) rfl rfl G.2.1 rfl ?_
  replace G := gr_pR (k := 4) (v := none) G G.2.2.1
  refine a_aload_0 rfl rfl ?_
  refine a_iconst (v := (-1)) rfl rfl rfl ?_
  refine c_puti rfl rfl G.2.1 rfl ?_
  replace G := gr_pI (p := 8) (k := 5) (v := (-1)) G
  refine a_aload_0 rfl rfl ?_
  refine a_iconst (v := (nI 0)) rfl rfl rfl ?_
  refine c_puti rfl rfl G.2.1 rfl ?_
  replace G := gr_pI (p := 8) (k := 6) (v := (nI 0)) G
  refine a_aload_0 rfl rfl ?_
  refine a_iconst (v := (nI 0)) rfl rfl rfl ?_
  refine c_puti rfl rfl G.2.1 rfl ?_
  replace G := gr_pI (p := 8) (k := 7) (v := (nI 0)) G
  refine a_aload_0 rfl rfl ?_
  refine a_sipush (v := (nI 900)) rfl rfl rfl ?_
  refine c_newI (z := 900) rfl rfl rfl (by decide) G.1 ?_
  replace G := gr_mk (t := 20) (z := 900) G
  refine c_putrS rfl rfl G.2.1 rfl ?_
  replace G := gr_pR (k := 8) (v := (some (9 + 30))) G G.2.2.1
  refine a_aload_0 rfl rfl ?_
  refine a_iconst (v := (nI 1)) rfl rfl rfl ?_
  refine c_puti rfl rfl G.2.1 rfl ?_
  replace G := gr_pI (p := 8) (k := 9) (v := (nI 1)) G
  exact a_vret rfl rfl
theorem g_iLws {σ : mvSt} {p c : Nat} (G : Gr σ (9) p c) (ho : 8 < 9) : Gr (iLws σ) (9 + 31) p c := by
  replace G := gr_mk (t := 5) (z := 3) G
  replace G := g_iPth (o := 9) (m := 9 + 1) G (by omega)
  replace G := gr_pR (k := 0) (v := (some (9))) G (show 8 < _ by omega)
  replace G := gr_mk (t := 0) (z := 13) G
  replace G := g_iHol11 G (by omega)
  replace G := gr_pR (k := 1) (v := (some (9 + 2))) G (show 8 < _ by omega)
  replace G := gr_mk (t := 7) (z := 2) G
  replace G := g_iRck (o := 9 + 24) (m := 9 + 25) G (by omega)
  replace G := gr_pR (k := 2) (v := (some (9 + 24))) G (show 8 < _ by omega)
  replace G := gr_mk (t := 7) (z := 2) G
  replace G := g_iRck (o := 9 + 27) (m := 9 + 28) G (by omega)
  replace G := gr_pR (k := 3) (v := (some (9 + 27))) G (show 8 < _ by omega)
  replace G := gr_pR (k := 4) (v := none) G (show 8 < _ by omega)
  replace G := gr_pI (p := 8) (k := 5) (v := (-1)) G
  replace G := gr_pI (p := 8) (k := 6) (v := (nI 0)) G
  replace G := gr_pI (p := 8) (k := 7) (v := (nI 0)) G
  replace G := gr_mk (t := 20) (z := 900) G
  replace G := gr_pR (k := 8) (v := (some (9 + 30))) G (show 8 < _ by omega)
  replace G := gr_pI (p := 8) (k := 9) (v := (nI 1)) G
  exact G
theorem t_iLws {σ : mvSt} {p c : Nat} (G : Gr σ (9) p c) (H : TB σ) (ho : 8 < 9) (h7 : 7 ≤ 8) : TB (iLws σ) := by
  replace H := tb_mk (t := 5) (z := 3) H (gr_7 G)
  replace G := gr_mk (t := 5) (z := 3) G
  replace H := t_iPth (o := 9) (m := 9 + 1) G H (by omega) (by omega)
  replace G := g_iPth (o := 9) (m := 9 + 1) G (by omega)
  replace H := tb_pR (p := 8) (k := 0) (v := (some (9))) H h7
  replace G := gr_pR (k := 0) (v := (some (9))) G (show 8 < _ by omega)
  replace H := tb_mk (t := 0) (z := 13) H (gr_7 G)
  replace G := gr_mk (t := 0) (z := 13) G
  replace H := t_iHol11 G H (by omega) (by omega)
  replace G := g_iHol11 G (by omega)
  replace H := tb_pR (p := 8) (k := 1) (v := (some (9 + 2))) H h7
  replace G := gr_pR (k := 1) (v := (some (9 + 2))) G (show 8 < _ by omega)
  replace H := tb_mk (t := 7) (z := 2) H (gr_7 G)
  replace G := gr_mk (t := 7) (z := 2) G
  replace H := t_iRck (o := 9 + 24) (m := 9 + 25) G H (by omega) (by omega)
  replace G := g_iRck (o := 9 + 24) (m := 9 + 25) G (by omega)
  replace H := tb_pR (p := 8) (k := 2) (v := (some (9 + 24))) H h7
  replace G := gr_pR (k := 2) (v := (some (9 + 24))) G (show 8 < _ by omega)
  replace H := tb_mk (t := 7) (z := 2) H (gr_7 G)
  replace G := gr_mk (t := 7) (z := 2) G
  replace H := t_iRck (o := 9 + 27) (m := 9 + 28) G H (by omega) (by omega)
  replace G := g_iRck (o := 9 + 27) (m := 9 + 28) G (by omega)
  replace H := tb_pR (p := 8) (k := 3) (v := (some (9 + 27))) H h7
  replace G := gr_pR (k := 3) (v := (some (9 + 27))) G (show 8 < _ by omega)
  replace H := tb_pR (p := 8) (k := 4) (v := none) H h7
  replace G := gr_pR (k := 4) (v := none) G (show 8 < _ by omega)
  replace H := tb_pI (p := 8) (k := 5) (v := (-1)) H h7
  replace G := gr_pI (p := 8) (k := 5) (v := (-1)) G
  replace H := tb_pI (p := 8) (k := 6) (v := (nI 0)) H h7
  replace G := gr_pI (p := 8) (k := 6) (v := (nI 0)) G
  replace H := tb_pI (p := 8) (k := 7) (v := (nI 0)) H h7
  replace G := gr_pI (p := 8) (k := 7) (v := (nI 0)) G
  replace H := tb_mk (t := 20) (z := 900) H (gr_7 G)
  replace G := gr_mk (t := 20) (z := 900) G
  replace H := tb_pR (p := 8) (k := 8) (v := (some (9 + 30))) H h7
  replace G := gr_pR (k := 8) (v := (some (9 + 30))) G (show 8 < _ by omega)
  replace H := tb_pI (p := 8) (k := 9) (v := (nI 1)) H h7
  replace G := gr_pI (p := 8) (k := 9) (v := (nI 1)) G
  exact H
theorem f_iLws {σ : mvSt} {p c i : Nat} (G : Gr σ (9) p c) (hi : i < 9) (hn : i ≠ 8) : SameAt i σ (iLws σ) := by
  have S : SameAt i σ σ := sa_refl
  have ho : 8 ≤ 8 := Nat.le_refl _
  replace S := sa_tr S (sa_mk (t := 5) (z := 3) G (by omega))
  replace G := gr_mk (t := 5) (z := 3) G
  replace S := sa_tr S (f_iPth (o := 9) (m := 9 + 1) (by omega) G (by omega) (by omega))
  replace G := g_iPth (o := 9) (m := 9 + 1) G (by omega)
  replace S := sa_tr S (sa_pR (p := 8) (k := 0) (v := (some (9))) hn)
  replace G := gr_pR (p := 8) (k := 0) (v := (some (9))) G (by omega)
  replace S := sa_tr S (sa_mk (t := 0) (z := 13) G (by omega))
  replace G := gr_mk (t := 0) (z := 13) G
  replace S := sa_tr S (f_iHol11 G (by omega) (by omega))
  replace G := g_iHol11 G (by omega)
  replace S := sa_tr S (sa_pR (p := 8) (k := 1) (v := (some (9 + 2))) hn)
  replace G := gr_pR (p := 8) (k := 1) (v := (some (9 + 2))) G (by omega)
  replace S := sa_tr S (sa_mk (t := 7) (z := 2) G (by omega))
  replace G := gr_mk (t := 7) (z := 2) G
  replace S := sa_tr S (f_iRck (o := 9 + 24) (m := 9 + 25) (by omega) G (by omega) (by omega))
  replace G := g_iRck (o := 9 + 24) (m := 9 + 25) G (by omega)
  replace S := sa_tr S (sa_pR (p := 8) (k := 2) (v := (some (9 + 24))) hn)
  replace G := gr_pR (p := 8) (k := 2) (v := (some (9 + 24))) G (by omega)
  replace S := sa_tr S (sa_mk (t := 7) (z := 2) G (by omega))
  replace G := gr_mk (t := 7) (z := 2) G
  replace S := sa_tr S (f_iRck (o := 9 + 27) (m := 9 + 28) (by omega) G (by omega) (by omega))
  replace G := g_iRck (o := 9 + 27) (m := 9 + 28) G (by omega)
  replace S := sa_tr S (sa_pR (p := 8) (k := 3) (v := (some (9 + 27))) hn)
  replace G := gr_pR (p := 8) (k := 3) (v := (some (9 + 27))) G (by omega)
  replace S := sa_tr S (sa_pR (p := 8) (k := 4) (v := none) hn)
  replace G := gr_pR (p := 8) (k := 4) (v := none) G (by omega)
  replace S := sa_tr S (sa_pI (p := 8) (k := 5) (v := (-1)) hn)
  replace G := gr_pI (p := 8) (k := 5) (v := (-1)) G
  replace S := sa_tr S (sa_pI (p := 8) (k := 6) (v := (nI 0)) hn)
  replace G := gr_pI (p := 8) (k := 6) (v := (nI 0)) G
  replace S := sa_tr S (sa_pI (p := 8) (k := 7) (v := (nI 0)) hn)
  replace G := gr_pI (p := 8) (k := 7) (v := (nI 0)) G
  replace S := sa_tr S (sa_mk (t := 20) (z := 900) G (by omega))
  replace G := gr_mk (t := 20) (z := 900) G
  replace S := sa_tr S (sa_pR (p := 8) (k := 8) (v := (some (9 + 30))) hn)
  replace G := gr_pR (p := 8) (k := 8) (v := (some (9 + 30))) G (by omega)
  replace S := sa_tr S (sa_pI (p := 8) (k := 9) (v := (nI 1)) hn)
  replace G := gr_pI (p := 8) (k := 9) (v := (nI 1)) G
  exact S
