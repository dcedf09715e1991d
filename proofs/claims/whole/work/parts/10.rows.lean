/-! rows, new cells, statics, constants, natives -/
theorem mvIn_spec {i : Int32} {n : Nat} (h : mvIn i n = true) : ¬ (i < 0 ∨ n ≤ i.toNatClampNeg) := by
  unfold mvIn at h
  simp only [Bool.not_eq_true', Bool.or_eq_false_iff, decide_eq_false_iff_not] at h
  rintro (z | z)
  · exact h.1 z
  · have := Nat.ble_eq_true_of_le z
    rw [this] at h
    cases h.2
section MR
variable {p : Program} {l : Launch} {e : Env} {R : Room} {s : State} {m : MethodId} {args : Array Value} {below : List Frame} {meth : Method} {c : Code} {Q : State → Prop} {E : mvE} {k : Nat}
variable {cells slots pc : Nat} {L st : List Value} {σ : mvSt}
theorem mo_arrI {H : Heap} (hW : mvWorld E σ H) (hK : mvKF E s) {o : Nat} (ho : (σ.1.2.2 o).1 = 20) : 7 ≤ o ∧ o < σ.1.1 ∧ H[mvAd E o]? = some (arrV (E.2.1 20) (σ.1.2.2 o).2 (fun j => .int (σ.2.1 o j))) := by
  obtain ⟨h1, h2⟩ := mo_own hW hK (o := o) (by omega)
  refine ⟨h1, h2, ?_⟩
  have h3 := hW.2.2.2.2.1 o h1 h2
  unfold mvCell at h3
  rcases h3 with ⟨h3, -⟩ | ⟨-, h3⟩ | ⟨h3, -⟩ | ⟨h3, -⟩ | ⟨h3, -⟩
  · omega
  · exact h3
  all_goals omega
theorem mo_arrL {H : Heap} (hW : mvWorld E σ H) (hK : mvKF E s) {o : Nat} (ho : (σ.1.2.2 o).1 = 21) : 7 ≤ o ∧ o < σ.1.1 ∧ H[mvAd E o]? = some (arrV (E.2.1 21) (σ.1.2.2 o).2 (fun j => .long (σ.2.2.1 o j))) := by
  obtain ⟨h1, h2⟩ := mo_own hW hK (o := o) (by omega)
  refine ⟨h1, h2, ?_⟩
  have h3 := hW.2.2.2.2.1 o h1 h2
  unfold mvCell at h3
  rcases h3 with ⟨h3, -⟩ | ⟨h3, -⟩ | ⟨-, h3⟩ | ⟨h3, -⟩ | ⟨h3, -⟩
  · omega
  · omega
  · exact h3
  all_goals omega
theorem mo_arrZ {H : Heap} (hW : mvWorld E σ H) (hK : mvKF E s) {o : Nat} (ho : (σ.1.2.2 o).1 = 22) : 7 ≤ o ∧ o < σ.1.1 ∧ H[mvAd E o]? = some (arrV (E.2.1 22) (σ.1.2.2 o).2 (fun j => .int (σ.2.1 o j))) := by
  obtain ⟨h1, h2⟩ := mo_own hW hK (o := o) (by omega)
  refine ⟨h1, h2, ?_⟩
  have h3 := hW.2.2.2.2.1 o h1 h2
  unfold mvCell at h3
  rcases h3 with ⟨h3, -⟩ | ⟨h3, -⟩ | ⟨h3, -⟩ | ⟨-, h3⟩ | ⟨h3, -⟩
  · omega
  · omega
  · omega
  · exact h3
  · omega
theorem mo_arrA {H : Heap} (hW : mvWorld E σ H) (hK : mvKF E s) {o : Nat} (ho : (σ.1.2.2 o).1 = 23) : 7 ≤ o ∧ o < σ.1.1 ∧ H[mvAd E o]? = some (arrV (E.2.1 23) (σ.1.2.2 o).2 (fun j => mvTv E (mvRv (σ.2.2.2 o j)))) := by
  obtain ⟨h1, h2⟩ := mo_own hW hK (o := o) (by omega)
  refine ⟨h1, h2, ?_⟩
  have h3 := hW.2.2.2.2.1 o h1 h2
  unfold mvCell at h3
  rcases h3 with ⟨h3, -⟩ | ⟨h3, -⟩ | ⟨h3, -⟩ | ⟨h3, -⟩ | ⟨-, h3⟩
  · omega
  · omega
  · omega
  · omega
  · exact h3
/-- a row that lies before the law's entry -/
theorem mo_xrow {H : Heap} (hW : mvWorld E σ H) {o a N : Nat} {ty : FieldType} {f : Nat → Int32} (hlo : E.2.2.2.1 o = some a) (ho : o < 7) (hT : va_T ty a N (fun j => .int (f j)) (mvA E) s (mvH E)) : mvTv E (.ref o) = .ref a ∧ ∃ cell : Cell, H[a]? = some cell ∧ s.isArrayOf cell ty ∧ cell.vm ≠ .unknown ∧ N ≤ cell.slots.size ∧ cell.slots.size.toInt32 = Int32.ofNat N ∧ ∀ j : Nat, j < N → cell.slots[j]? = some (.int (f j)) := by
  obtain ⟨cell, h1, h2, h3, h4, h5, h6, h7⟩ := hT
  have hl : a < (mvH E).size := (Array.getElem?_eq_some_iff.mp h1).1
  refine ⟨?_, cell, by rw [hW.2.2.1 a hl]; exact h1, h2, h3, h4, h5, h6⟩
  show va_rf (mvLo E o) = _
  unfold mvLo
  rw [if_pos ho, hlo]
  rfl
theorem mo_iald (X : mvCx E k p s m args meth c) {o : Nat} {i : Int32} (hd : decode (mvT k).2.1 pc = .ok (.iaload, 1)) (ho : (σ.1.2.2 o).1 = 20 ∨ (σ.1.2.2 o).1 = 25) (hin : ¬ (i < 0 ∨ (σ.1.2.2 o).2 ≤ i.toNatClampNeg))
    (G : mvG E k p l e R s m args below meth c Q cells slots (pc + 1) L (.int (σ.2.1 o i.toNatClampNeg) :: st) σ) : mvG E k p l e R s m args below meth c Q cells slots pc L (.int i :: .ref o :: st) σ := by
  intro H locs ls hW hL hlo
  have hK := X.2.2.2.2.2.2
  have hlt : i.toNatClampNeg < (σ.1.2.2 o).2 := Nat.not_le.mp fun q => hin (Or.inr q)
  rw [List.map_cons, List.map_cons]
  rcases ho with ho | ho
  · obtain ⟨h7, -, hc⟩ := mo_arrI hW hK ho
    rw [mvTv_own h7]
    exact W.iald (v := .int (σ.2.1 o i.toNatClampNeg)) X.1 X.2.1 hc (hK.2.1.1 _ _) (fun q => by cases q) (by rw [arrV_size]; exact hin) (arrV_read _ _ hlt) rfl rfl hd (G H locs ls hW hL hlo)
  · have h7 := mo_ext hW (o := o) (by omega)
    obtain ⟨e1, e2, e3⟩ := hW.2.2.2.2.2 o h7
    obtain ⟨a, ha, hT⟩ := hK.2.2.2.2.2.2.1 o h7 (by rw [← e1]; exact ho)
    rw [← e1, ← e2] at hT
    obtain ⟨ev, cell, g1, g2, g3, g4, g5, g6⟩ := mo_xrow hW ha h7 hT
    rw [ev]
    exact W.iald (v := .int (σ.2.1 o i.toNatClampNeg)) X.1 X.2.1 g1 g2 g3 (fun z => hin (z.imp id (fun y => Nat.le_trans g4 y))) (g6 _ hlt) rfl rfl hd (G H locs ls hW hL hlo)
theorem mo_bald (X : mvCx E k p s m args meth c) {o : Nat} {i : Int32} (hd : decode (mvT k).2.1 pc = .ok (.baload, 1)) (ho : (σ.1.2.2 o).1 = 22 ∨ (σ.1.2.2 o).1 = 24) (hin : ¬ (i < 0 ∨ (σ.1.2.2 o).2 ≤ i.toNatClampNeg))
    (G : mvG E k p l e R s m args below meth c Q cells slots (pc + 1) L (.int (σ.2.1 o i.toNatClampNeg) :: st) σ) : mvG E k p l e R s m args below meth c Q cells slots pc L (.int i :: .ref o :: st) σ := by
  intro H locs ls hW hL hlo
  have hK := X.2.2.2.2.2.2
  have hlt : i.toNatClampNeg < (σ.1.2.2 o).2 := Nat.not_le.mp fun q => hin (Or.inr q)
  rw [List.map_cons, List.map_cons]
  rcases ho with ho | ho
  · obtain ⟨h7, -, hc⟩ := mo_arrZ hW hK ho
    rw [mvTv_own h7]
    exact W.zald (v := .int (σ.2.1 o i.toNatClampNeg)) X.1 X.2.1 hc (hK.2.2.2.1.1 _ _) (fun q => by cases q) (by rw [arrV_size]; exact hin) (arrV_read _ _ hlt) rfl rfl hd (G H locs ls hW hL hlo)
  · have h7 := mo_ext hW (o := o) (by omega)
    obtain ⟨e1, e2, e3⟩ := hW.2.2.2.2.2 o h7
    obtain ⟨a, ha, hT⟩ := hK.2.2.2.2.2.2.2.1 o h7 (by rw [← e1]; exact ho)
    rw [← e1, ← e2] at hT
    obtain ⟨ev, cell, g1, g2, g3, g4, g5, g6⟩ := mo_xrow hW ha h7 hT
    rw [ev]
    exact W.bald (v := .int (σ.2.1 o i.toNatClampNeg)) X.1 X.2.1 g1 g2 g3 (fun z => hin (z.imp id (fun y => Nat.le_trans g4 y))) (g6 _ hlt) rfl rfl hd (G H locs ls hW hL hlo)
theorem mo_lald (X : mvCx E k p s m args meth c) {o : Nat} {i : Int32} (hd : decode (mvT k).2.1 pc = .ok (.laload, 1)) (ho : (σ.1.2.2 o).1 = 21) (hin : ¬ (i < 0 ∨ (σ.1.2.2 o).2 ≤ i.toNatClampNeg))
    (G : mvG E k p l e R s m args below meth c Q cells slots (pc + 1) L (.long (σ.2.2.1 o i.toNatClampNeg) :: st) σ) : mvG E k p l e R s m args below meth c Q cells slots pc L (.int i :: .ref o :: st) σ := by
  intro H locs ls hW hL hlo
  have hK := X.2.2.2.2.2.2
  have hlt : i.toNatClampNeg < (σ.1.2.2 o).2 := Nat.not_le.mp fun q => hin (Or.inr q)
  rw [List.map_cons, List.map_cons]
  obtain ⟨h7, -, hc⟩ := mo_arrL hW hK ho
  rw [mvTv_own h7]
  exact W.lald (v := .long (σ.2.2.1 o i.toNatClampNeg)) X.1 X.2.1 hc (hK.2.2.1.1 _ _) (fun q => by cases q) (by rw [arrV_size]; exact hin) (arrV_read _ _ hlt) rfl rfl hd (G H locs ls hW hL hlo)
theorem mo_aald (X : mvCx E k p s m args meth c) {o : Nat} {i : Int32} (hd : decode (mvT k).2.1 pc = .ok (.aaload, 1)) (ho : (σ.1.2.2 o).1 = 23) (hin : ¬ (i < 0 ∨ (σ.1.2.2 o).2 ≤ i.toNatClampNeg))
    (G : mvG E k p l e R s m args below meth c Q cells slots (pc + 1) L (mvRv (σ.2.2.2 o i.toNatClampNeg) :: st) σ) : mvG E k p l e R s m args below meth c Q cells slots pc L (.int i :: .ref o :: st) σ := by
  intro H locs ls hW hL hlo
  have hK := X.2.2.2.2.2.2
  have hlt : i.toNatClampNeg < (σ.1.2.2 o).2 := Nat.not_le.mp fun q => hin (Or.inr q)
  rw [List.map_cons, List.map_cons]
  obtain ⟨h7, -, hc⟩ := mo_arrA hW hK ho
  rw [mvTv_own h7]
  exact W.aald (v := mvTv E (mvRv (σ.2.2.2 o i.toNatClampNeg))) (ty := .object "MoonLodger$Text") X.1 X.2.1 hc (hK.2.2.2.2.1.1 _ _) rfl (fun q => by cases q) (by rw [arrV_size]; exact hin) (arrV_read _ (fun j => mvTv E (mvRv (σ.2.2.2 o j))) hlt) rfl rfl hd (G H locs ls hW hL hlo)
theorem mo_locs {o q : Nat} {locs : List Loc} (h : ∀ x ∈ locs, (mvH E).size ≤ x.base) : ∀ x ∈ locs ++ [⟨mvAd E o, q⟩], (mvH E).size ≤ x.base := by
  intro x hx
  rcases List.mem_append.mp hx with h1 | h1
  · exact h x h1
  · rw [List.mem_singleton.mp h1]
    show (mvH E).size ≤ mvAd E o
    unfold mvAd
    omega
theorem mo_iast (X : mvCx E k p s m args meth c) {o : Nat} {i v : Int32} (hd : decode (mvT k).2.1 pc = .ok (.iastore, 1)) (ho : (σ.1.2.2 o).1 = 20) (hin : ¬ (i < 0 ∨ (σ.1.2.2 o).2 ≤ i.toNatClampNeg))
    (G : mvG E k p l e R s m args below meth c Q cells slots (pc + 1) L st (σ.1, mvPut σ.2.1 o i.toNatClampNeg v, σ.2.2)) : mvG E k p l e R s m args below meth c Q cells slots pc L (.int v :: .int i :: .ref o :: st) σ := by
  intro H locs ls hW hL hlo
  have hK := X.2.2.2.2.2.2
  rw [List.map_cons, List.map_cons, List.map_cons]
  obtain ⟨h7, -, hc⟩ := mo_arrI hW hK ho
  rw [mvTv_own h7]
  refine W.iast X.1 X.2.1 hc (hK.2.1.1 _ _) (fun q => by cases q) (by rw [arrV_size]; exact hin) rfl rfl hd fun H1 e z oq => ?_
  refine G H1 _ ls (mo_write hW h7 rfl (fun id hne => ⟨mo_mput_ne _ _ _ hne, rfl, rfl⟩) z oq (Or.inr (Or.inl ⟨ho, ?_⟩))) hL (mo_locs hlo)
  rw [e, arrV_store]
  congr 2
  funext j
  show updV _ _ _ j = .int (mvPut σ.2.1 o i.toNatClampNeg v o j)
  rw [mo_mput_self]
  by_cases hj : j = i.toNatClampNeg <;> simp [updV, va_up, hj]
theorem mo_bast (X : mvCx E k p s m args meth c) {o : Nat} {i v : Int32} (hd : decode (mvT k).2.1 pc = .ok (.bastore, 1)) (ho : (σ.1.2.2 o).1 = 22) (hin : ¬ (i < 0 ∨ (σ.1.2.2 o).2 ≤ i.toNatClampNeg)) (hv : v = 0 ∨ v = 1)
    (G : mvG E k p l e R s m args below meth c Q cells slots (pc + 1) L st (σ.1, mvPut σ.2.1 o i.toNatClampNeg v, σ.2.2)) : mvG E k p l e R s m args below meth c Q cells slots pc L (.int v :: .int i :: .ref o :: st) σ := by
  intro H locs ls hW hL hlo
  have hK := X.2.2.2.2.2.2
  rw [List.map_cons, List.map_cons, List.map_cons]
  obtain ⟨h7, -, hc⟩ := mo_arrZ hW hK ho
  rw [mvTv_own h7]
  refine W.zast X.1 X.2.1 hc (hK.2.2.2.1.1 _ _) (fun q => by cases q) (by rw [arrV_size]; exact hin) rfl rfl hd fun H1 e z oq => ?_
  refine G H1 _ ls (mo_write hW h7 rfl (fun id hne => ⟨mo_mput_ne _ _ _ hne, rfl, rfl⟩) z oq (Or.inr (Or.inr (Or.inr (Or.inl ⟨ho, ?_⟩))))) hL (mo_locs hlo)
  have hn : narrow .boolean (.int v) = .int v := by rcases hv with rfl | rfl <;> rfl
  rw [e, hn, arrV_store]
  congr 2
  funext j
  show updV _ _ _ j = .int (mvPut σ.2.1 o i.toNatClampNeg v o j)
  rw [mo_mput_self]
  by_cases hj : j = i.toNatClampNeg <;> simp [updV, va_up, hj]
theorem mo_last (X : mvCx E k p s m args meth c) {o : Nat} {i : Int32} {v : Int64} (hd : decode (mvT k).2.1 pc = .ok (.lastore, 1)) (ho : (σ.1.2.2 o).1 = 21) (hin : ¬ (i < 0 ∨ (σ.1.2.2 o).2 ≤ i.toNatClampNeg))
    (G : mvG E k p l e R s m args below meth c Q cells slots (pc + 1) L st (σ.1, σ.2.1, mvPut σ.2.2.1 o i.toNatClampNeg v, σ.2.2.2)) : mvG E k p l e R s m args below meth c Q cells slots pc L (.long v :: .int i :: .ref o :: st) σ := by
  intro H locs ls hW hL hlo
  have hK := X.2.2.2.2.2.2
  rw [List.map_cons, List.map_cons, List.map_cons]
  obtain ⟨h7, -, hc⟩ := mo_arrL hW hK ho
  rw [mvTv_own h7]
  refine W.last X.1 X.2.1 hc (hK.2.2.1.1 _ _) (fun q => by cases q) (by rw [arrV_size]; exact hin) rfl rfl hd fun H1 e z oq => ?_
  refine G H1 _ ls (mo_write hW h7 rfl (fun id hne => ⟨rfl, mo_mput_ne _ _ _ hne, rfl⟩) z oq (Or.inr (Or.inr (Or.inl ⟨ho, ?_⟩)))) hL (mo_locs hlo)
  rw [e, arrV_store]
  congr 2
  funext j
  show updV _ _ _ j = .long (mvPut σ.2.2.1 o i.toNatClampNeg v o j)
  rw [mo_mput_self]
  by_cases hj : j = i.toNatClampNeg <;> simp [updV, va_up, hj]
theorem mo_aast (X : mvCx E k p s m args meth c) {o v : Nat} {i : Int32} (hd : decode (mvT k).2.1 pc = .ok (.aastore, 1)) (ho : (σ.1.2.2 o).1 = 23) (hv : (σ.1.2.2 v).1 = 10) (hin : ¬ (i < 0 ∨ (σ.1.2.2 o).2 ≤ i.toNatClampNeg))
    (G : mvG E k p l e R s m args below meth c Q cells slots (pc + 1) L st (σ.1, σ.2.1, σ.2.2.1, mvPut σ.2.2.2 o i.toNatClampNeg (some v))) : mvG E k p l e R s m args below meth c Q cells slots pc L (.ref v :: .int i :: .ref o :: st) σ := by
  intro H locs ls hW hL hlo
  have hK := X.2.2.2.2.2.2
  have hlt : i.toNatClampNeg < (σ.1.2.2 o).2 := Nat.not_le.mp fun q => hin (Or.inr q)
  have h0 : ¬ i < 0 := fun q => hin (Or.inl q)
  rw [List.map_cons, List.map_cons, List.map_cons]
  obtain ⟨h7, -, hc⟩ := mo_arrA hW hK ho
  obtain ⟨v7, -, cellV, g1, g2, g3, -⟩ := mo_cell hW hK hv (by decide)
  rw [mvTv_own h7, mvTv_own v7]
  have hcls := (hK.1 10 _ (mv_gc 10 (by decide))).2
  obtain ⟨kA, comp, k1, k2, k3, -⟩ := hK.2.2.2.2.1.2.1
  have hcomp : comp = E.1.1 10 := Option.some.inj (k3.symm.trans hcls.1)
  subst hcomp
  obtain ⟨kC, hkC, -⟩ := hcls.2
  refine W.aast X.1 X.2.1 hc (fun q h => by cases h) (fun h => by cases h) k1 k2 rfl hkC ⟨h0, by rw [arrV_size]; exact hlt⟩ g1 (fun q h => by rw [g3] at h; cases h) (by rw [g2]; exact hkC) (by rw [g2]; exact va_assign hcls) rfl rfl hd fun H1 e z oq => ?_
  refine G H1 _ ls (mo_write hW h7 rfl (fun id hne => ⟨rfl, rfl, mo_mput_ne _ _ _ hne⟩) z oq (Or.inr (Or.inr (Or.inr (Or.inr ⟨ho, ?_⟩))))) hL (mo_locs hlo)
  rw [e, arrV_store]
  congr 2
  funext j
  show updV _ _ _ j = mvTv E (mvRv (mvPut σ.2.2.2 o i.toNatClampNeg (some v) o j))
  rw [mo_mput_self]
  by_cases hj : j = i.toNatClampNeg
  · subst hj
    have e9 : va_up (σ.2.2.2 o) i.toNatClampNeg (some v) i.toNatClampNeg = some v := if_pos rfl
    rw [e9]
    show updV _ _ _ _ = mvTv E (.ref v)
    rw [mvTv_own v7]
    simp [updV]
  · simp [updV, va_up, hj]
theorem mo_alen (X : mvCx E k p s m args meth c) {o : Nat} (hd : decode (mvT k).2.1 pc = .ok (.arraylength, 1)) (ho : 20 ≤ (σ.1.2.2 o).1 ∧ (σ.1.2.2 o).1 ≤ 25)
    (G : mvG E k p l e R s m args below meth c Q cells slots (pc + 1) L (.int (nI (σ.1.2.2 o).2) :: st) σ) : mvG E k p l e R s m args below meth c Q cells slots pc L (.ref o :: st) σ := by
  intro H locs ls hW hL hlo
  have hK := X.2.2.2.2.2.2
  have g := G H locs ls hW hL hlo
  rw [List.map_cons]
  rcases (show (σ.1.2.2 o).1 = 20 ∨ (σ.1.2.2 o).1 = 21 ∨ (σ.1.2.2 o).1 = 22 ∨ (σ.1.2.2 o).1 = 23 ∨ (σ.1.2.2 o).1 = 24 ∨ (σ.1.2.2 o).1 = 25 by omega) with h | h | h | h | h | h
  · obtain ⟨h7, -, hc⟩ := mo_arrI hW hK h
    rw [mvTv_own h7]
    exact W.alen X.1 X.2.1 hc (hK.2.1.1 _ _) (by rw [arrV_size]; rfl) rfl rfl hd g
  · obtain ⟨h7, -, hc⟩ := mo_arrL hW hK h
    rw [mvTv_own h7]
    exact W.alen X.1 X.2.1 hc (hK.2.2.1.1 _ _) (by rw [arrV_size]; rfl) rfl rfl hd g
  · obtain ⟨h7, -, hc⟩ := mo_arrZ hW hK h
    rw [mvTv_own h7]
    exact W.alen X.1 X.2.1 hc (hK.2.2.2.1.1 _ _) (by rw [arrV_size]; rfl) rfl rfl hd g
  · obtain ⟨h7, -, hc⟩ := mo_arrA hW hK h
    rw [mvTv_own h7]
    exact W.alen X.1 X.2.1 hc (hK.2.2.2.2.1.1 _ _) (by rw [arrV_size]; rfl) rfl rfl hd g
  · have h7 := mo_ext hW (o := o) (by omega)
    obtain ⟨e1, e2, e3⟩ := hW.2.2.2.2.2 o h7
    obtain ⟨a, ha, hT⟩ := hK.2.2.2.2.2.2.2.1 o h7 (by rw [← e1]; exact h)
    rw [← e1] at hT
    obtain ⟨ev, cell, g1, g2, g3, g4, g5, g6⟩ := mo_xrow hW ha h7 hT
    rw [ev]
    exact W.alen X.1 X.2.1 g1 g2 g5 rfl rfl hd g
  · have h7 := mo_ext hW (o := o) (by omega)
    obtain ⟨e1, e2, e3⟩ := hW.2.2.2.2.2 o h7
    obtain ⟨a, ha, hT⟩ := hK.2.2.2.2.2.2.1 o h7 (by rw [← e1]; exact h)
    rw [← e1] at hT
    obtain ⟨ev, cell, g1, g2, g3, g4, g5, g6⟩ := mo_xrow hW ha h7 hT
    rw [ev]
    exact W.alen X.1 X.2.1 g1 g2 g5 rfl rfl hd g
/-- a new cell -/
theorem mo_made {H H1 : Heap} {tag size w : Nat} (hW : mvWorld E σ H) (hz : H1.size = H.size + 1) (hq : ∀ q, q < H.size → H1[q]? = H[q]?) (hc : mvCell E σ.1.1 (tag, size) (fun _ => 0) (fun _ => 0) (fun _ => none) H1) : mvWorld E (mvMake σ tag size w) H1 := by
  obtain ⟨h1, h2, h3, h4, h5, h6⟩ := hW
  refine ⟨by show 7 ≤ σ.1.1 + 1; omega, by show H1.size = (mvH E).size + (σ.1.1 + 1 - 7); omega, fun q hl => ?_, fun id hid => ?_, fun id hid hlt => ?_, fun id hid => ?_⟩
  · rw [hq q (by omega)]
    exact h3 q hl
  · have hid : σ.1.1 + 1 ≤ id := hid
    show (va_up σ.1.2.2 σ.1.1 (tag, size) id).1 = 99
    rw [show va_up σ.1.2.2 σ.1.1 (tag, size) id = σ.1.2.2 id from if_neg (by omega)]
    exact h4 id (by omega)
  · have hlt : id < σ.1.1 + 1 := hlt
    show mvCell E id (va_up σ.1.2.2 σ.1.1 (tag, size) id) (va_up σ.2.1 σ.1.1 (fun _ => 0) id) (va_up σ.2.2.1 σ.1.1 (fun _ => 0) id) (va_up σ.2.2.2 σ.1.1 (fun _ => none) id) H1
    by_cases e : id = σ.1.1
    · subst e
      simp only [va_up, if_true]
      exact hc
    · simp only [va_up, if_neg e]
      exact (h5 id hid (by omega)).kept (hq _ (by unfold mvAd; omega))
  · have e : id ≠ σ.1.1 := by omega
    show va_up σ.1.2.2 σ.1.1 (tag, size) id = _ ∧ va_up σ.2.1 σ.1.1 (fun _ => 0) id = _ ∧ va_up σ.2.2.2 σ.1.1 (fun _ => none) id = _
    simp only [va_up, if_neg e]
    exact h6 id hid
theorem mo_next {H : Heap} (hW : mvWorld E σ H) : mvAd E σ.1.1 = H.size := hW.2.1.symm
theorem mo_newI (X : mvCx E k p s m args meth c) {n : Int32} (hd : decode (mvT k).2.1 pc = .ok (.newarray .int, 2)) (hn : ¬ n < 0) (hb : n.toNatClampNeg < 65536) (hc : cells + 1 ≤ R.cells) (hs : slots + n.toNatClampNeg ≤ R.slots)
    (G : mvG E k p l e R s m args below meth c Q (cells + 1) (slots + n.toNatClampNeg) (pc + 2) L (.ref σ.1.1 :: st) (mvMake σ 20 n.toNatClampNeg n.toNatClampNeg)) : mvG E k p l e R s m args below meth c Q cells slots pc L (.int n :: st) σ := by
  intro H locs ls hW hL hlo
  have hK := X.2.2.2.2.2.2
  have hw : (Cond.arrayClass .int).before args s = true := mv_is mv_wArrI X.2.2.2.2.1
  have hby : n.toNatClampNeg * 4 ≤ 536870912 := by omega
  refine va_newaK (atype := .int) X.1 X.2.1 hw rfl hd rfl hn rfl hby hc hs rfl fun H1 cA e1 z1 o1 hAr hNm => ?_
  have hcA : cA = E.2.1 20 := Option.some.inj (hNm.symm.trans hK.2.1.2)
  subst hcA
  have g := G H1 locs ls (mo_made hW z1 o1 (Or.inr (Or.inl ⟨rfl, by rw [mo_next hW]; exact e1⟩))) hL hlo
  rw [List.map_cons, mvTv_own hW.1, mo_next hW] at g
  exact g
theorem mo_newL (X : mvCx E k p s m args meth c) {n : Int32} (hd : decode (mvT k).2.1 pc = .ok (.newarray .long, 2)) (hn : ¬ n < 0) (hb : n.toNatClampNeg < 65536) (hc : cells + 1 ≤ R.cells) (hs : slots + n.toNatClampNeg ≤ R.slots)
    (G : mvG E k p l e R s m args below meth c Q (cells + 1) (slots + n.toNatClampNeg) (pc + 2) L (.ref σ.1.1 :: st) (mvMake σ 21 n.toNatClampNeg n.toNatClampNeg)) : mvG E k p l e R s m args below meth c Q cells slots pc L (.int n :: st) σ := by
  intro H locs ls hW hL hlo
  have hK := X.2.2.2.2.2.2
  have hw : (Cond.arrayClass .long).before args s = true := mv_is mv_wArrL X.2.2.2.2.1
  have hby : n.toNatClampNeg * 8 ≤ 536870912 := by omega
  refine va_newaK (atype := .long) X.1 X.2.1 hw rfl hd rfl hn rfl hby hc hs rfl fun H1 cA e1 z1 o1 hAr hNm => ?_
  have hcA : cA = E.2.1 21 := Option.some.inj (hNm.symm.trans hK.2.2.1.2)
  subst hcA
  have g := G H1 locs ls (mo_made hW z1 o1 (Or.inr (Or.inr (Or.inl ⟨rfl, by rw [mo_next hW]; exact e1⟩)))) hL hlo
  rw [List.map_cons, mvTv_own hW.1, mo_next hW] at g
  exact g
theorem mo_newZ (X : mvCx E k p s m args meth c) {n : Int32} (hd : decode (mvT k).2.1 pc = .ok (.newarray .boolean, 2)) (hn : ¬ n < 0) (hb : n.toNatClampNeg < 65536) (hc : cells + 1 ≤ R.cells) (hs : slots + n.toNatClampNeg ≤ R.slots)
    (G : mvG E k p l e R s m args below meth c Q (cells + 1) (slots + n.toNatClampNeg) (pc + 2) L (.ref σ.1.1 :: st) (mvMake σ 22 n.toNatClampNeg n.toNatClampNeg)) : mvG E k p l e R s m args below meth c Q cells slots pc L (.int n :: st) σ := by
  intro H locs ls hW hL hlo
  have hK := X.2.2.2.2.2.2
  have hw : (Cond.arrayClass .boolean).before args s = true := mv_is mv_wArrZ X.2.2.2.2.1
  have hby : n.toNatClampNeg * 1 ≤ 536870912 := by omega
  refine va_newaK (atype := .boolean) X.1 X.2.1 hw rfl hd rfl hn rfl hby hc hs rfl fun H1 cA e1 z1 o1 hAr hNm => ?_
  have hcA : cA = E.2.1 22 := Option.some.inj (hNm.symm.trans hK.2.2.2.1.2)
  subst hcA
  have g := G H1 locs ls (mo_made hW z1 o1 (Or.inr (Or.inr (Or.inr (Or.inl ⟨rfl, by rw [mo_next hW]; exact e1⟩))))) hL hlo
  rw [List.map_cons, mvTv_own hW.1, mo_next hW] at g
  exact g
theorem mo_newA (X : mvCx E k p s m args meth c) {n : Int32} {i w : Nat} (hd : decode (mvT k).2.1 pc = .ok (.anewarray i, 3)) (hw : mvWd w (.classLink (mvT k).1.cls i "MoonLodger$Text") = true) (hn : ¬ n < 0) (hb : n.toNatClampNeg < 65536) (hc : cells + 1 ≤ R.cells) (hs : slots + n.toNatClampNeg ≤ R.slots)
    (G : mvG E k p l e R s m args below meth c Q (cells + 1) (slots + n.toNatClampNeg) (pc + 3) L (.ref σ.1.1 :: st) (mvMake σ 23 n.toNatClampNeg n.toNatClampNeg)) : mvG E k p l e R s m args below meth c Q cells slots pc L (.int n :: st) σ := by
  intro H locs ls hW hL hlo
  have hK := X.2.2.2.2.2.2
  refine W.anew X.1 X.2.1 X.2.2.2.1 (mo_word X hw rfl) (va_AO.use hK.2.2.2.2.1.2.2) rfl hd rfl hn (by omega) hc hs fun cA kA comp f1 f2 f3 f4 => ?_
  generalize hH1 : H.push ({ cls := cA, slots := Array.replicate n.toNatClampNeg .null, vm := .none } : Cell) = H1
  have z1 : H1.size = H.size + 1 := by rw [← hH1, Array.size_push]
  have e1 : H1[H.size]? = some (arrV cA n.toNatClampNeg (fun _ => .null)) := by rw [← hH1, Array.getElem?_push_size, ← arrV_new]
  have o1 : ∀ q : Nat, q < H.size → H1[q]? = H[q]? := fun q hq => by rw [← hH1, Array.getElem?_push, if_neg (Nat.ne_of_lt hq)]
  have hcA : cA = E.2.1 23 := by
    obtain ⟨kA', comp', k1, k2, k3, k4⟩ := hK.2.2.2.2.1.2.1
    exact Option.some.inj (f1.symm.trans k4)
  subst hcA
  have g := G H1 locs ls (mo_made hW z1 o1 (Or.inr (Or.inr (Or.inr (Or.inr ⟨rfl, by rw [mo_next hW]; exact e1⟩))))) hL hlo
  rw [List.map_cons, mvTv_own hW.1, mo_next hW] at g
  exact g
theorem mo_new (X : mvCx E k p s m args meth c) {i a w : Nat} (hd : decode (mvT k).2.1 pc = .ok (.new i, 3)) (ha : a < 13) (hw : mvWd w (.classLink (mvT k).1.cls i (mvCn a)) = true) (hc : cells + 1 ≤ R.cells) (hs : slots + mvNf a ≤ R.slots)
    (G : mvG E k p l e R s m args below meth c Q (cells + 1) (slots + mvNf a) (pc + 3) L (.ref σ.1.1 :: st) (mvMake σ a (mvNf a) (mvNf a))) : mvG E k p l e R s m args below meth c Q cells slots pc L st σ := by
  intro H locs ls hW hL hlo
  have hK := X.2.2.2.2.2.2
  have hKn := hK.1 a _ (mv_gc a ha)
  have hok := mv_newOk a ha
  rw [Bool.and_eq_true] at hok
  refine W.newcK X.1 X.2.1 X.2.2.2.1 (mo_word X hw rfl) (mv_is hok.1 X.2.2.2.2.1) (mv_is hok.2 X.2.2.2.2.1) rfl hd hc hs hKn.2.1 rfl fun H1 kC hkC e1 z1 o1 => ?_
  have hob := u_born (gTy a) X.2.2.2.2.1 (mv_lay ha) hKn hkC e1 (fun b hb => (mv_fld ha hb).2.1)
  obtain ⟨cell, q1, q2, q3, q4⟩ := hob
  have g := G H1 locs ls (mo_made hW z1 o1 (Or.inl ⟨ha, cell, by rw [mo_next hW]; exact q1, q2, q3, fun b hb => ?_⟩)) hL hlo
  · rw [List.map_cons, mvTv_own hW.1, mo_next hW] at g
    exact g
  · rw [q4 b hb]
    show some (defaultValue (gTy a b)) = some (mvTv E (mvFv a b _ _ _))
    rw [(mv_fld ha hb).2.2.2.1]
    congr 1
    unfold mvFv
    split <;> rfl
end MR
