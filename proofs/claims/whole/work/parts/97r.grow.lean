/-! THE CONSTRUCTORS: states that grow -/
abbrev mkS (σ : mvSt) (t z : Nat) : mvSt := mvMake σ t z z
def pI (σ : mvSt) (o k : Nat) (v : Int32) : mvSt := (σ.1, mvPut σ.2.1 o k v, σ.2.2)
def pR (σ : mvSt) (o k : Nat) (v : Option Nat) : mvSt := (σ.1, σ.2.1, σ.2.2.1, mvPut σ.2.2.2 o k v)
/-- a row whose places i to n - 1 are filled -/
def flW (σ : mvSt) (p i n : Nat) (f : Nat → Int32) : mvSt := (σ.1, va_up σ.2.1 p (fun j => if i ≤ j ∧ j < n then f j else σ.2.1 p j), σ.2.2)
/-- the next id is m, the object o of the class c is there, nothing is there from m on -/
def Gr (σ : mvSt) (m o c : Nat) : Prop := σ.1.1 = m ∧ (σ.1.2.2 o).1 = c ∧ o < m ∧ (∀ i, m ≤ i → σ.1.2.2 i = (99, 0) ∧ σ.2.2.2 i = fun _ => none) ∧ 7 ≤ o
theorem gr_mk {σ : mvSt} {m o c t z : Nat} (G : Gr σ m o c) : Gr (mkS σ t z) (m + 1) o c := by
  obtain ⟨h1, h2, h3, h4, h5⟩ := G
  refine ⟨congrArg (· + 1) h1, ?_, by omega, fun i hi => ?_, h5⟩
  · show (va_up σ.1.2.2 σ.1.1 (t, z) o).1 = c
    rw [va_up_ne _ _ (by omega)]
    exact h2
  · show va_up σ.1.2.2 σ.1.1 (t, z) i = (99, 0) ∧ va_up σ.2.2.2 σ.1.1 (fun _ => none) i = fun _ => none
    rw [va_up_ne _ _ (by omega), va_up_ne _ _ (by omega)]
    exact h4 i (by omega)
theorem gr_nw {σ : mvSt} {m o c t z : Nat} (G : Gr σ m o c) : Gr (mkS σ t z) (m + 1) m t := by
  obtain ⟨h1, h2, h3, h4, h5⟩ := gr_mk (t := t) (z := z) G
  refine ⟨h1, ?_, by omega, h4, by have := G.2.2.1; omega⟩
  show (va_up σ.1.2.2 σ.1.1 (t, z) m).1 = t
  rw [G.1, va_up_self]
theorem gr_pI {σ : mvSt} {m o c p k : Nat} {v : Int32} (G : Gr σ m o c) : Gr (pI σ p k v) m o c := G
theorem gr_fl {σ : mvSt} {m o c p i n : Nat} {f : Nat → Int32} (G : Gr σ m o c) : Gr (flW σ p i n f) m o c := G
theorem gr_pR {σ : mvSt} {m o c p k : Nat} {v : Option Nat} (G : Gr σ m o c) (hp : p < m) : Gr (pR σ p k v) m o c := by
  obtain ⟨h1, h2, h3, h4, h5⟩ := G
  refine ⟨h1, h2, h3, fun i hi => ⟨(h4 i hi).1, ?_⟩, h5⟩
  show mvPut σ.2.2.2 p k v i = _
  unfold mvPut
  rw [va_up_ne _ _ (by omega)]
  exact (h4 i hi).2
def TB (σ : mvSt) : Prop := σ.1.2.2 2 = (13, 2) ∧ σ.1.2.2 3 = (24, 151) ∧ σ.2.1 2 1 = 0 ∧ σ.2.2.2 2 0 = some 3 ∧ σ.2.1 3 = fun j => msWords.getD j 0
theorem gr_7 {σ : mvSt} {m o c : Nat} (G : Gr σ m o c) : 7 ≤ σ.1.1 := by
  obtain ⟨h1, h2, h3, h4, h5⟩ := G
  omega
theorem tb_mk {σ : mvSt} {t z : Nat} (H : TB σ) (h : 7 ≤ σ.1.1) : TB (mkS σ t z) := by
  obtain ⟨h1, h2, h3, h4, h5⟩ := H
  refine ⟨(va_up_ne _ _ (by omega)).trans h1, (va_up_ne _ _ (by omega)).trans h2, (congrFun (va_up_ne σ.2.1 _ (show 2 ≠ σ.1.1 by omega)) 1).trans h3, (congrFun (va_up_ne σ.2.2.2 _ (show 2 ≠ σ.1.1 by omega)) 0).trans h4, (va_up_ne _ _ (by omega)).trans h5⟩
theorem tb_row {σ : mvSt} {p : Nat} {F : Nat → Int32} (H : TB σ) (h : 7 ≤ p) : TB (σ.1, va_up σ.2.1 p F, σ.2.2) := by
  obtain ⟨h1, h2, h3, h4, h5⟩ := H
  exact ⟨h1, h2, (congrFun (va_up_ne σ.2.1 _ (show 2 ≠ p by omega)) 1).trans h3, h4, (va_up_ne _ _ (by omega)).trans h5⟩
theorem tb_pI {σ : mvSt} {p k : Nat} {v : Int32} (H : TB σ) (h : 7 ≤ p) : TB (pI σ p k v) := tb_row H h
theorem tb_pR {σ : mvSt} {p k : Nat} {v : Option Nat} (H : TB σ) (h : 7 ≤ p) : TB (pR σ p k v) := by
  obtain ⟨h1, h2, h3, h4, h5⟩ := H
  exact ⟨h1, h2, h3, (congrFun (va_up_ne σ.2.2.2 _ (show 2 ≠ p by omega)) 0).trans h4, h5⟩
/-- one row is as it was -/
def SameAt (i : Nat) (σ σ' : mvSt) : Prop := σ'.1.2.2 i = σ.1.2.2 i ∧ σ'.2.2.2 i = σ.2.2.2 i ∧ σ'.2.1 i = σ.2.1 i
theorem sa_refl {i : Nat} {σ : mvSt} : SameAt i σ σ := ⟨rfl, rfl, rfl⟩
theorem sa_tr {i : Nat} {σ σ' σ'' : mvSt} (H : SameAt i σ σ') (K : SameAt i σ' σ'') : SameAt i σ σ'' := ⟨K.1.trans H.1, K.2.1.trans H.2.1, K.2.2.trans H.2.2⟩
theorem sa_mk {i : Nat} {σ : mvSt} {m o c t z : Nat} (G : Gr σ m o c) (h : i < m) : SameAt i σ (mkS σ t z) := by
  have e : i ≠ σ.1.1 := by rw [G.1]; omega
  exact ⟨va_up_ne _ _ e, va_up_ne _ _ e, va_up_ne _ _ e⟩
theorem sa_row {i : Nat} {σ : mvSt} {p : Nat} {F : Nat → Int32} (h : i ≠ p) : SameAt i σ (σ.1, va_up σ.2.1 p F, σ.2.2) := ⟨rfl, rfl, va_up_ne _ _ h⟩
theorem sa_pI {i : Nat} {σ : mvSt} {p k : Nat} {v : Int32} (h : i ≠ p) : SameAt i σ (pI σ p k v) := sa_row h
theorem sa_pR {i : Nat} {σ : mvSt} {p k : Nat} {v : Option Nat} (h : i ≠ p) : SameAt i σ (pR σ p k v) := ⟨rfl, va_up_ne _ _ h, rfl⟩
/-- what a row is -/
def Vl (σ : mvSt) (i : Nat) (s : Nat × Nat) (R : Nat → Option Nat) (F : Nat → Int32) : Prop := σ.1.2.2 i = s ∧ σ.2.2.2 i = R ∧ σ.2.1 i = F
theorem vl_sa {i : Nat} {σ σ' : mvSt} {s : Nat × Nat} {R : Nat → Option Nat} {F : Nat → Int32} (V : Vl σ i s R F) (H : SameAt i σ σ') : Vl σ' i s R F := ⟨H.1.trans V.1, H.2.1.trans V.2.1, H.2.2.trans V.2.2⟩
theorem vl_pI {i : Nat} {σ : mvSt} {s : Nat × Nat} {R : Nat → Option Nat} {F : Nat → Int32} {k : Nat} {v : Int32} (V : Vl σ i s R F) : Vl (pI σ i k v) i s R (va_up F k v) := ⟨V.1, V.2.1, (va_up_self _ _ _).trans (by rw [V.2.2])⟩
theorem vl_pR {i : Nat} {σ : mvSt} {s : Nat × Nat} {R : Nat → Option Nat} {F : Nat → Int32} {k : Nat} {v : Option Nat} (V : Vl σ i s R F) : Vl (pR σ i k v) i s (va_up R k v) F := ⟨V.1, (va_up_self _ _ _).trans (by rw [V.2.1]), V.2.2⟩
section CN
variable {d k pc n : Nat} {L st : List Value} {σ : mvSt} {r : Option Value × mvSt} {l : Nat} {im : Int} {a b w : Nat}
theorem c_new {i z m : Nat} (hC : mvC k pc = (.new i, l, im, a, b, w)) (hn : pc + 3 = n) (hz : mvNf a = z) (hm : σ.1.1 = m) (A : avA d k n L (.ref m :: st) (mkS σ a z) r) : avA d k pc L st σ r := by
  subst hm
  exact a_new hC hn hz A
theorem c_newI  {i : Int32} {z m : Nat} (hC : mvC k pc = (.newarray .int, l, im, a, b, w)) (hn : pc + 2 = n) (hi : i = nI z) (hz : z < 65536) (hm : σ.1.1 = m) (A : avA d k n L (.ref m :: st) (mkS σ 20 z) r) : avA d k pc L (.int i :: st) σ r := by
  subst hm
  obtain ⟨me, h, gl, gr⟩ := σ
  exact a_newI hC hn hi hz A
theorem c_newL  {i : Int32} {z m : Nat} (hC : mvC k pc = (.newarray .long, l, im, a, b, w)) (hn : pc + 2 = n) (hi : i = nI z) (hz : z < 65536) (hm : σ.1.1 = m) (A : avA d k n L (.ref m :: st) (mkS σ 21 z) r) : avA d k pc L (.int i :: st) σ r := by
  subst hm
  obtain ⟨me, h, gl, gr⟩ := σ
  exact a_newL hC hn hi hz A
theorem c_newZ  {i : Int32} {z m : Nat} (hC : mvC k pc = (.newarray .boolean, l, im, a, b, w)) (hn : pc + 2 = n) (hi : i = nI z) (hz : z < 65536) (hm : σ.1.1 = m) (A : avA d k n L (.ref m :: st) (mkS σ 22 z) r) : avA d k pc L (.int i :: st) σ r := by
  subst hm
  obtain ⟨me, h, gl, gr⟩ := σ
  exact a_newZ hC hn hi hz A
theorem c_newA {j : Nat} {i : Int32} {z m : Nat} (hC : mvC k pc = (.anewarray j, l, im, a, b, w)) (hn : pc + 3 = n) (hi : i = nI z) (hz : z < 65536) (hm : σ.1.1 = m) (A : avA d k n L (.ref m :: st) (mkS σ 23 z) r) : avA d k pc L (.int i :: st) σ r := by
  subst hm
  obtain ⟨me, h, gl, gr⟩ := σ
  exact a_newA hC hn hi hz A
theorem c_puti {i o c f : Nat} {v : Int32} (hC : mvC k pc = (.putfield i, l, im, c, f, w)) (hn : pc + 3 = n) (ho : (σ.1.2.2 o).1 = c) (hf : mvFk c f = 0) (A : avA d k n L st (pI σ o f v) r) : avA d k pc L (.int v :: .ref o :: st) σ r := by
  obtain ⟨me, h, gl, gr⟩ := σ
  exact a_puti hC hn ho hf A
theorem c_putz {i o c f : Nat} {v : Int32} (hC : mvC k pc = (.putfield i, l, im, c, f, w)) (hn : pc + 3 = n) (ho : (σ.1.2.2 o).1 = c) (hf : mvFk c f = 3) (hv : v = 0 ∨ v = 1) (A : avA d k n L st (pI σ o f v) r) : avA d k pc L (.int v :: .ref o :: st) σ r := by
  obtain ⟨me, h, gl, gr⟩ := σ
  exact a_putz hC hn ho hf hv A
theorem c_putr {i o c f : Nat} {v : Option Nat} (hC : mvC k pc = (.putfield i, l, im, c, f, w)) (hn : pc + 3 = n) (ho : (σ.1.2.2 o).1 = c) (hf : mvFk c f = 2) (A : avA d k n L st (pR σ o f v) r) : avA d k pc L (mvRv v :: .ref o :: st) σ r := by
  obtain ⟨me, h, gl, gr⟩ := σ
  exact a_putr hC hn ho hf A
theorem c_putrS {i o c f v : Nat} (hC : mvC k pc = (.putfield i, l, im, c, f, w)) (hn : pc + 3 = n) (ho : (σ.1.2.2 o).1 = c) (hf : mvFk c f = 2) (A : avA d k n L st (pR σ o f (some v)) r) : avA d k pc L (.ref v :: .ref o :: st) σ r := c_putr (v := some v) hC hn ho hf A
theorem c_getr {i o c f x : Nat} (hC : mvC k pc = (.getfield i, l, im, c, f, w)) (hn : pc + 3 = n) (ho : (σ.1.2.2 o).1 = c) (hf : ∀ fi fl fr, mvFv c f fi fl fr = mvRv (fr f)) (hx : σ.2.2.2 o f = some x) (A : avA d k n L (.ref x :: st) σ r) : avA d k pc L (.ref o :: st) σ r := by
  obtain ⟨me, h, gl, gr⟩ := σ
  exact a_getr hC hn ho hf hx A
end CN
def iTxt (o m : Nat) (σ : mvSt) : mvSt := (pR (mkS (pR (mkS (pI (pR (mkS (pI (pR (mkS (pR (mkS (pR (mkS σ 20 24) (o) 0 (some (m))) 20 24) (o) 1 (some (m + 1))) 20 24) (o) 2 (some (m + 2))) (o) 3 (nI 0)) 20 300) (o) 4 (some (m + 3))) (o) 5 (nI 0)) 20 3) (o) 6 (some (m + 4))) 20 3) (o) 7 (some (m + 5)))
theorem e_iTxt {σ : mvSt} {o m : Nat} (G : Gr σ m o 10) : avE 0 37 [.ref o] σ (none, iTxt o m σ) := by
  show avA _ 37 0 [.ref o] [] _ _
  refine a_aload_0 rfl rfl ?_
  refine a_obj rfl rfl G.2.2.2.2 (Nat.le_of_ble_eq_true rfl) ?_
  refine a_aload_0 rfl rfl ?_
  refine a_bipush (v := (nI 24)) rfl rfl rfl ?_
  refine c_newI (z := 24) rfl rfl rfl (by decide) G.1 ?_
  replace G := gr_mk (t := 20) (z := 24) G
  refine c_putrS rfl rfl G.2.1 rfl ?_
  replace G := gr_pR (k := 0) (v := (some (m))) G G.2.2.1
  refine a_aload_0 rfl rfl ?_
  refine a_bipush (v := (nI 24)) rfl rfl rfl ?_
  refine c_newI (z := 24) rfl rfl rfl (by decide) G.1 ?_
  replace G := gr_mk (t := 20) (z := 24) G
  refine c_putrS rfl rfl G.2.1 rfl ?_
  replace G := gr_pR (k := 1) (v := (some (m + 1))) G G.2.2.1
  refine a_aload_0 rfl rfl ?_
  refine a_bipush (v := (nI 24)) rfl rfl rfl ?_
  refine c_newI (z := 24) rfl rfl rfl (by decide) G.1 ?_
  replace G := gr_mk (t := 20) (z := 24) G
  refine c_putrS rfl rfl G.2.1 rfl ?_
  replace G := gr_pR (k := 2) (v := (some (m + 2))) G G.2.2.1
  refine a_aload_0 rfl rfl ?_
  refine a_iconst (v := (nI 0)) rfl rfl rfl ?_
  refine c_puti rfl rfl G.2.1 rfl ?_
  replace G := gr_pI (p := o) (k := 3) (v := (nI 0)) G
  refine a_aload_0 rfl rfl ?_
  refine a_sipush (v := (nI 300)) rfl rfl rfl ?_
  refine c_newI (z := 300) rfl rfl rfl (by decide) G.1 ?_
  replace G := gr_mk (t := 20) (z := 300) G
  refine c_putrS rfl rfl G.2.1 rfl ?_
  replace G := gr_pR (k := 4) (v := (some (m + 3))) G G.2.2.1
  refine a_aload_0 rfl rfl ?_
  refine a_iconst (v := (nI 0)) rfl rfl rfl ?_
  refine c_puti rfl rfl G.2.1 rfl ?_
  replace G := gr_pI (p := o) (k := 5) (v := (nI 0)) G
  refine a_aload_0 rfl rfl ?_
  refine a_iconst (v := (nI 3)) rfl rfl rfl ?_
  refine c_newI (z := 3) rfl rfl rfl (by decide) G.1 ?_
  replace G := gr_mk (t := 20) (z := 3) G
  refine c_putrS rfl rfl G.2.1 rfl ?_
  replace G := gr_pR (k := 6) (v := (some (m + 4))) G G.2.2.1
  refine a_aload_0 rfl rfl ?_
  refine a_iconst (v := (nI 3)) rfl rfl rfl ?_
  refine c_newI (z := 3) rfl rfl rfl (by decide) G.1 ?_
  replace G := gr_mk (t := 20) (z := 3) G
  refine c_putrS rfl rfl G.2.1 rfl ?_
  replace G := gr_pR (k := 7) (v := (some (m + 5))) G G.2.2.1
  exact a_vret rfl rfl
theorem g_iTxt {σ : mvSt} {o m : Nat} {p c : Nat} (G : Gr σ m p c) (ho : o < m) : Gr (iTxt o m σ) (m + 6) p c := by
  replace G := gr_mk (t := 20) (z := 24) G
  replace G := gr_pR (k := 0) (v := (some (m))) G (show o < _ by omega)
  replace G := gr_mk (t := 20) (z := 24) G
  replace G := gr_pR (k := 1) (v := (some (m + 1))) G (show o < _ by omega)
  replace G := gr_mk (t := 20) (z := 24) G
  replace G := gr_pR (k := 2) (v := (some (m + 2))) G (show o < _ by omega)
  replace G := gr_pI (p := o) (k := 3) (v := (nI 0)) G
  replace G := gr_mk (t := 20) (z := 300) G
  replace G := gr_pR (k := 4) (v := (some (m + 3))) G (show o < _ by omega)
  replace G := gr_pI (p := o) (k := 5) (v := (nI 0)) G
  replace G := gr_mk (t := 20) (z := 3) G
  replace G := gr_pR (k := 6) (v := (some (m + 4))) G (show o < _ by omega)
  replace G := gr_mk (t := 20) (z := 3) G
  replace G := gr_pR (k := 7) (v := (some (m + 5))) G (show o < _ by omega)
  exact G
theorem t_iTxt {σ : mvSt} {o m : Nat} {p c : Nat} (G : Gr σ m p c) (H : TB σ) (ho : o < m) (h7 : 7 ≤ o) : TB (iTxt o m σ) := by
  replace H := tb_mk (t := 20) (z := 24) H (gr_7 G)
  replace G := gr_mk (t := 20) (z := 24) G
  replace H := tb_pR (p := o) (k := 0) (v := (some (m))) H h7
  replace G := gr_pR (k := 0) (v := (some (m))) G (show o < _ by omega)
  replace H := tb_mk (t := 20) (z := 24) H (gr_7 G)
  replace G := gr_mk (t := 20) (z := 24) G
  replace H := tb_pR (p := o) (k := 1) (v := (some (m + 1))) H h7
  replace G := gr_pR (k := 1) (v := (some (m + 1))) G (show o < _ by omega)
  replace H := tb_mk (t := 20) (z := 24) H (gr_7 G)
  replace G := gr_mk (t := 20) (z := 24) G
  replace H := tb_pR (p := o) (k := 2) (v := (some (m + 2))) H h7
  replace G := gr_pR (k := 2) (v := (some (m + 2))) G (show o < _ by omega)
  replace H := tb_pI (p := o) (k := 3) (v := (nI 0)) H h7
  replace G := gr_pI (p := o) (k := 3) (v := (nI 0)) G
  replace H := tb_mk (t := 20) (z := 300) H (gr_7 G)
  replace G := gr_mk (t := 20) (z := 300) G
  replace H := tb_pR (p := o) (k := 4) (v := (some (m + 3))) H h7
  replace G := gr_pR (k := 4) (v := (some (m + 3))) G (show o < _ by omega)
  replace H := tb_pI (p := o) (k := 5) (v := (nI 0)) H h7
  replace G := gr_pI (p := o) (k := 5) (v := (nI 0)) G
  replace H := tb_mk (t := 20) (z := 3) H (gr_7 G)
  replace G := gr_mk (t := 20) (z := 3) G
  replace H := tb_pR (p := o) (k := 6) (v := (some (m + 4))) H h7
  replace G := gr_pR (k := 6) (v := (some (m + 4))) G (show o < _ by omega)
  replace H := tb_mk (t := 20) (z := 3) H (gr_7 G)
  replace G := gr_mk (t := 20) (z := 3) G
  replace H := tb_pR (p := o) (k := 7) (v := (some (m + 5))) H h7
  replace G := gr_pR (k := 7) (v := (some (m + 5))) G (show o < _ by omega)
  exact H
theorem f_iTxt {σ : mvSt} {o m : Nat} {p c i : Nat} (hm : o < m) (G : Gr σ m p c) (hi : i < m) (hn : i ≠ o) : SameAt i σ (iTxt o m σ) := by
  have S : SameAt i σ σ := sa_refl
  have ho : o ≤ o := Nat.le_refl _
  replace S := sa_tr S (sa_mk (t := 20) (z := 24) G (by omega))
  replace G := gr_mk (t := 20) (z := 24) G
  replace S := sa_tr S (sa_pR (p := o) (k := 0) (v := (some (m))) hn)
  replace G := gr_pR (p := o) (k := 0) (v := (some (m))) G (by have := hm; omega)
  replace S := sa_tr S (sa_mk (t := 20) (z := 24) G (by omega))
  replace G := gr_mk (t := 20) (z := 24) G
  replace S := sa_tr S (sa_pR (p := o) (k := 1) (v := (some (m + 1))) hn)
  replace G := gr_pR (p := o) (k := 1) (v := (some (m + 1))) G (by have := hm; omega)
  replace S := sa_tr S (sa_mk (t := 20) (z := 24) G (by omega))
  replace G := gr_mk (t := 20) (z := 24) G
  replace S := sa_tr S (sa_pR (p := o) (k := 2) (v := (some (m + 2))) hn)
  replace G := gr_pR (p := o) (k := 2) (v := (some (m + 2))) G (by have := hm; omega)
  replace S := sa_tr S (sa_pI (p := o) (k := 3) (v := (nI 0)) hn)
  replace G := gr_pI (p := o) (k := 3) (v := (nI 0)) G
  replace S := sa_tr S (sa_mk (t := 20) (z := 300) G (by omega))
  replace G := gr_mk (t := 20) (z := 300) G
  replace S := sa_tr S (sa_pR (p := o) (k := 4) (v := (some (m + 3))) hn)
  replace G := gr_pR (p := o) (k := 4) (v := (some (m + 3))) G (by have := hm; omega)
  replace S := sa_tr S (sa_pI (p := o) (k := 5) (v := (nI 0)) hn)
  replace G := gr_pI (p := o) (k := 5) (v := (nI 0)) G
  replace S := sa_tr S (sa_mk (t := 20) (z := 3) G (by omega))
  replace G := gr_mk (t := 20) (z := 3) G
  replace S := sa_tr S (sa_pR (p := o) (k := 6) (v := (some (m + 4))) hn)
  replace G := gr_pR (p := o) (k := 6) (v := (some (m + 4))) G (by have := hm; omega)
  replace S := sa_tr S (sa_mk (t := 20) (z := 3) G (by omega))
  replace G := gr_mk (t := 20) (z := 3) G
  replace S := sa_tr S (sa_pR (p := o) (k := 7) (v := (some (m + 5))) hn)
  replace G := gr_pR (p := o) (k := 7) (v := (some (m + 5))) G (by have := hm; omega)
  exact S
