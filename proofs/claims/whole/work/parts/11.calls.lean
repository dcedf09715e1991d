/-! statics, constants, natives, calls -/
theorem mv_wMax : mvIsW (.static Lib.Math.max.name) = true := by decide +kernel
theorem mv_wMaxC : mvIsW (.code Lib.Math.max.name Lib.Math.max.code 2 (some .int)) = true := by decide +kernel
theorem mv_wMin : mvIsW (.static Lib.Math.min.name) = true := by decide +kernel
theorem mv_wMinC : mvIsW (.code Lib.Math.min.name Lib.Math.min.code 2 (some .int)) = true := by decide +kernel
theorem mv_wMaxL : mvIsW (.static Lib.MathLoose.max_long.x) = true := by decide +kernel
theorem mv_wMaxLC : mvIsW (.code Lib.MathLoose.max_long.x Lib.MathLoose.max_long.code 4 (some .long)) = true := by decide +kernel
theorem mv_wMinL : mvIsW (.static Lib.MathLoose.min_long.x) = true := by decide +kernel
theorem mv_wMinLC : mvIsW (.code Lib.MathLoose.min_long.x Lib.MathLoose.min_long.code 4 (some .long)) = true := by decide +kernel
theorem mv_wMath : mvIsW (.initialized "java/lang/Math") = true := by decide +kernel
section MC
variable {p : Program} {l : Launch} {e : Env} {R : Room} {s : State} {m : MethodId} {args : Array Value} {below : List Frame} {meth : Method} {c : Code} {Q : State → Prop} {E : mvE} {k : Nat}
variable {cells slots pc : Nat} {L st : List Value} {σ : mvSt}
/-- a String constant's field -/
theorem mo_getS (X : mvCx E k p s m args meth c) {i b o w : Nat} (hd : decode (mvT k).2.1 pc = .ok (.getfield i, 3)) (ho : (σ.1.2.2 o).1 = 13)
    (hl : (b = 0 ∧ mvWd w (.fieldLink (mvT k).1.cls i "java/lang/String" "value" "[B") = true) ∨ (b ≠ 0 ∧ b = 1 ∧ mvWd w (.fieldLink (mvT k).1.cls i "java/lang/String" "coder" "B") = true))
    (G : mvG E k p l e R s m args below meth c Q cells slots (pc + 3) L ((if b = 0 then mvRv (σ.2.2.2 o b) else .int (σ.2.1 o b)) :: st) σ) : mvG E k p l e R s m args below meth c Q cells slots pc L (.ref o :: st) σ := by
  intro H locs ls hW hL hlo
  have hK := X.2.2.2.2.2.2
  have g := G H locs ls hW hL hlo
  have h7 := mo_ext hW (o := o) (by omega)
  obtain ⟨e1, e2, e3⟩ := hW.2.2.2.2.2 o h7
  obtain ⟨a, ha, hO, hC, hV⟩ := hK.2.2.2.2.2.2.2.2.1 o h7 (by rw [← e1]; exact ho)
  have ev : mvTv E (.ref o) = .ref a := by
    show va_rf (mvLo E o) = _
    unfold mvLo
    rw [if_pos h7, ha]
    rfl
  rw [List.map_cons, ev]
  rw [← e2] at hC
  rw [← e3] at hV
  rcases hl with ⟨rfl, hl⟩ | ⟨-, rfl, hl⟩
  · obtain ⟨cf, kk, fi, f, cell, h1, h2, h3, h4, h5, h6⟩ := hV
    have hal : a < (mvH E).size := (Array.getElem?_eq_some_iff.mp h3).1
    exact W.getf X.1 X.2.1 X.2.2.2.1 (mo_word X hl rfl) h1 h2 (by rw [hW.2.2.1 a hal]; exact h3) h4 h5 rfl rfl hd g
  · obtain ⟨cf, kk, fi, f, cell, h1, h2, h3, h4, h5, h6⟩ := hC
    have hal : a < (mvH E).size := (Array.getElem?_eq_some_iff.mp h3).1
    exact W.getf X.1 X.2.1 X.2.2.2.1 (mo_word X hl rfl) h1 h2 (by rw [hW.2.2.1 a hal]; exact h3) h4 h5 rfl rfl hd g
/-- a static -/
theorem mo_gets (X : mvCx E k p s m args meth c) {i w : Nat} {C n d : String} {v : Value} (hd : decode (mvT k).2.1 pc = .ok (.getstatic i, 3)) (hl : mvWd w (.fieldLink (mvT k).1.cls i C n d) = true) (hZ : va_Z C n d (mvTv E v) (mvA E) s (mvH E))
    (G : mvG E k p l e R s m args below meth c Q cells slots (pc + 3) L (v :: st) σ) : mvG E k p l e R s m args below meth c Q cells slots pc L st σ := by
  intro H locs ls hW hL hlo
  obtain ⟨cf, kf, fi, f, a, cell, h1, h2, h3, h4, h5, h6, h7, h8⟩ := hZ
  have hal : a < (mvH E).size := (Array.getElem?_eq_some_iff.mp h5).1
  exact W.gets X.1 X.2.1 X.2.2.2.1 (mo_word X hl rfl) h1 h2 h3 h4 (by rw [hW.2.2.1 a hal]; exact h5) (fun e => by rw [e] at h6; cases h6) h7 rfl hd (G H locs ls hW hL hlo)
theorem mo_getsN (X : mvCx E k p s m args meth c) {i w : Nat} {C n d ho : String} {v : Value} (hd : decode (mvT k).2.1 pc = .ok (.getstatic i, 3)) (hl : mvWd w (.fieldLinkNest (mvT k).1.cls i C n d ho) = true) (hZ : va_Z C n d (mvTv E v) (mvA E) s (mvH E))
    (G : mvG E k p l e R s m args below meth c Q cells slots (pc + 3) L (v :: st) σ) : mvG E k p l e R s m args below meth c Q cells slots pc L st σ := by
  intro H locs ls hW hL hlo T hT Y
  obtain ⟨cf, kf, fi, f, a, cell, h1, h2, h3, h4, h5, h6, h7, h8⟩ := hZ
  have hal : a < (mvH E).size := (Array.getElem?_eq_some_iff.mp h5).1
  obtain ⟨vm', Y', st'⟩ := Y.getstaticNest X.1 X.2.2.2.1 (mo_word X hl rfl) h1 h2 h3 h4 (by rw [hT, hW.2.2.1 a hal]; exact h5) (fun e => by rw [e] at h6; cases h6) h7 (g := F0 m pc ls (st.map (mvTv E))) rfl (by rw [X.2.1]; exact hd)
  obtain ⟨t, a1, b1⟩ := G H locs ls hW hL hlo (T.setVm vm') hT Y'
  exact ⟨t, st' t a1, b1⟩
theorem mo_ldcS (X : mvCx E k p s m args meth c) {i o : Nat} (hd : decode (mvT k).2.1 pc = .ok (.ldc i, 2)) (hc : (mvT k).1.cls = "MoonLodger$Tape") (hi : (i = 34 ∧ o = 2) ∨ (i = 78 ∧ o = 4))
    (G : mvG E k p l e R s m args below meth c Q cells slots (pc + 2) L (.ref o :: st) σ) : mvG E k p l e R s m args below meth c Q cells slots pc L st σ := by
  intro H locs ls hW hL hlo
  have hK := X.2.2.2.2.2.2
  have g := G H locs ls hW hL hlo
  rw [List.map_cons] at g
  have hown := X.2.2.2.1
  rw [hc] at hown
  rcases hi with ⟨rfl, rfl⟩ | ⟨rfl, rfl⟩
  · obtain ⟨a, tx, h1, h2⟩ := hK.2.2.2.2.2.2.2.2.2.1
    have ev : mvTv E (.ref 2) = .ref a := by
      show va_rf (mvLo E 2) = _
      unfold mvLo
      rw [if_pos (by decide), h1]
      rfl
    rw [ev] at g
    exact va_ldcS X.1 X.2.1 hown h2 hd g
  · obtain ⟨a, tx, h1, h2⟩ := hK.2.2.2.2.2.2.2.2.2.2.1
    have ev : mvTv E (.ref 4) = .ref a := by
      show va_rf (mvLo E 4) = _
      unfold mvLo
      rw [if_pos (by decide), h1]
      rfl
    rw [ev] at g
    exact va_ldcS X.1 X.2.1 hown h2 hd g
theorem mo_mr {pc : Nat} {ls : Array Slot} {st r : List Value} (h : (r.map fun v => v.category).sum ≤ 8) : 2 * (F0 m pc ls st).monitorRoom + ((r.map (mvTv E)).map fun v => v.category).sum ≤ 8 := lv_room (by rw [mvTv_cats]; exact h)
theorem mo_obj (X : mvCx E k p s m args meth c) {i o w : Nat} (hd : decode (mvT k).2.1 pc = .ok (.invokespecial i, 3)) (hl : mvWd w (.methodLink (mvT k).1.cls i Lib.objectInit) = true) (ho : 7 ≤ o) (hr : (st.map fun v => v.category).sum ≤ 8) (hf : 1 ≤ R.frames) (hlo2 : 100 ≤ R.locals)
    (G : mvG E k p l e R s m args below meth c Q cells slots (pc + 3) L st σ) : mvG E k p l e R s m args below meth c Q cells slots pc L (.ref o :: st) σ := by
  intro H locs ls hW hL hlo
  rw [List.map_cons, mvTv_own ho]
  have h1 := mo_mr (E := E) (m := m) (pc := pc) (ls := ls) (st := .ref (mvAd E o) :: st.map (mvTv E)) hr
  exact W.objInit X.1 X.2.1 X.2.2.2.1 (mo_word X hl rfl) (mv_is mv_wObjI X.2.2.2.2.1) (mv_is mv_wObjC X.2.2.2.2.1) rfl (by show ls.size = c.maxLocals; rw [hL.2.1, X.2.2.1]) rfl hd hf (by omega) (G H locs ls hW hL hlo)
theorem mo_max (X : mvCx E k p s m args meth c) {i w : Nat} {x y : Int32} (hd : decode (mvT k).2.1 pc = .ok (.invokestatic i, 3)) (hl : mvWd w (.methodLink (mvT k).1.cls i Lib.Math.max.name) = true) (hr : (st.map fun v => v.category).sum ≤ 8) (hf : 1 ≤ R.frames) (hlo2 : 100 ≤ R.locals) (hc : cells ≤ R.cells) (hs : slots ≤ R.slots)
    (G : mvG E k p l e R s m args below meth c Q cells slots (pc + 3) L (.int (if x < y then y else x) :: st) σ) : mvG E k p l e R s m args below meth c Q cells slots pc L (.int y :: .int x :: st) σ := by
  intro H locs ls hW hL hlo
  exact va_mmax X.1 X.2.1 (by rw [hL.2.1, X.2.2.1]) X.2.2.2.1 (mo_word X hl rfl) (mv_is mv_wMax X.2.2.2.2.1) (mv_is mv_wMath X.2.2.2.2.1) (mv_is mv_wMaxC X.2.2.2.2.1) hf (by rw [mvTv_cats]; omega) hc hs hd (G H locs ls hW hL hlo)
theorem mo_min (X : mvCx E k p s m args meth c) {i w : Nat} {x y : Int32} (hd : decode (mvT k).2.1 pc = .ok (.invokestatic i, 3)) (hl : mvWd w (.methodLink (mvT k).1.cls i Lib.Math.min.name) = true) (hr : (st.map fun v => v.category).sum ≤ 8) (hf : 1 ≤ R.frames) (hlo2 : 100 ≤ R.locals) (hc : cells ≤ R.cells) (hs : slots ≤ R.slots)
    (G : mvG E k p l e R s m args below meth c Q cells slots (pc + 3) L (.int (if y < x then y else x) :: st) σ) : mvG E k p l e R s m args below meth c Q cells slots pc L (.int y :: .int x :: st) σ := by
  intro H locs ls hW hL hlo
  exact va_mmin X.1 X.2.1 (by rw [hL.2.1, X.2.2.1]) X.2.2.2.1 (mo_word X hl rfl) (mv_is mv_wMin X.2.2.2.2.1) (mv_is mv_wMath X.2.2.2.2.1) (mv_is mv_wMinC X.2.2.2.2.1) hf (by rw [mvTv_cats]; omega) hc hs hd (G H locs ls hW hL hlo)
theorem mo_maxl (X : mvCx E k p s m args meth c) {i w : Nat} {x y : Int64} (hd : decode (mvT k).2.1 pc = .ok (.invokestatic i, 3)) (hl : mvWd w (.methodLink (mvT k).1.cls i Lib.MathLoose.max_long.x) = true) (hr : (st.map fun v => v.category).sum ≤ 8) (hf : 1 ≤ R.frames) (hlo2 : 100 ≤ R.locals) (hc : cells ≤ R.cells) (hs : slots ≤ R.slots)
    (G : mvG E k p l e R s m args below meth c Q cells slots (pc + 3) L (.long (if y < x then x else y) :: st) σ) : mvG E k p l e R s m args below meth c Q cells slots pc L (.long y :: .long x :: st) σ := by
  intro H locs ls hW hL hlo
  exact va_mmax_long X.1 X.2.1 (by rw [hL.2.1, X.2.2.1]) X.2.2.2.1 (mo_word X hl rfl) (mv_is mv_wMaxL X.2.2.2.2.1) (mv_is mv_wMath X.2.2.2.2.1) (mv_is mv_wMaxLC X.2.2.2.2.1) hf (by rw [mvTv_cats]; omega) hc hs hd (G H locs ls hW hL hlo)
theorem mo_minl (X : mvCx E k p s m args meth c) {i w : Nat} {x y : Int64} (hd : decode (mvT k).2.1 pc = .ok (.invokestatic i, 3)) (hl : mvWd w (.methodLink (mvT k).1.cls i Lib.MathLoose.min_long.x) = true) (hr : (st.map fun v => v.category).sum ≤ 8) (hf : 1 ≤ R.frames) (hlo2 : 100 ≤ R.locals) (hc : cells ≤ R.cells) (hs : slots ≤ R.slots)
    (G : mvG E k p l e R s m args below meth c Q cells slots (pc + 3) L (.long (if y < x then y else x) :: st) σ) : mvG E k p l e R s m args below meth c Q cells slots pc L (.long y :: .long x :: st) σ := by
  intro H locs ls hW hL hlo
  exact va_mmin_long X.1 X.2.1 (by rw [hL.2.1, X.2.2.1]) X.2.2.2.1 (mo_word X hl rfl) (mv_is mv_wMinL X.2.2.2.2.1) (mv_is mv_wMath X.2.2.2.2.1) (mv_is mv_wMinLC X.2.2.2.2.1) hf (by rw [mvTv_cats]; omega) hc hs hd (G H locs ls hW hL hlo)
theorem mo_nn {z : Int32} (hz : ¬ z < 0) : z.toInt = (z.toNatClampNeg : Int) := by
  have hz0 : (0 : Int) ≤ z.toInt := by
    have := Int32.not_lt.mp hz
    simpa using Int32.le_iff_toInt_le.mp this
  show z.toInt = ((z.toInt.toNat : Nat) : Int)
  omega
theorem mo_copy (X : mvCx E k p s m args meth c) {i w o d : Nat} {sp dp n : Int32} (hd : decode (mvT k).2.1 pc = .ok (.invokestatic i, 3)) (hl : mvWd w (.methodLink (mvT k).1.cls i arraycopyName) = true) (ho : (σ.1.2.2 o).1 = 20) (ht : (σ.1.2.2 d).1 = 20) (h1 : ¬ sp < 0) (h2 : ¬ dp < 0) (h3 : ¬ n < 0)
    (h4 : sp.toNatClampNeg + n.toNatClampNeg ≤ (σ.1.2.2 o).2) (h5 : dp.toNatClampNeg + n.toNatClampNeg ≤ (σ.1.2.2 d).2) (hr : (st.map fun v => v.category).sum ≤ 8) (hf : 1 ≤ R.frames) (hlo2 : 100 ≤ R.locals)
    (G : mvG E k p l e R s m args below meth c Q cells slots (pc + 3) L st (σ.1, va_up σ.2.1 d (va_cpy (σ.2.1 o) (σ.2.1 d) sp.toNatClampNeg dp.toNatClampNeg n.toNatClampNeg), σ.2.2)) : mvG E k p l e R s m args below meth c Q cells slots pc L (.int n :: .int dp :: .ref d :: .int sp :: .ref o :: st) σ := by
  intro H locs ls hW hL hlo
  have hK := X.2.2.2.2.2.2
  obtain ⟨o7, -, hc0⟩ := mo_arrI hW hK ho
  obtain ⟨d7, -, hc1⟩ := mo_arrI hW hK ht
  simp only [List.map_cons]
  rw [mvTv_own o7, mvTv_own d7]
  have hcat := mvTv_cats E st
  have hnf := mv_nfw
  intro T hT Y
  obtain ⟨-, k0, hk0, cm0, hkk0⟩ := hK.2.1.1 (σ.1.2.2 o).2 (fun j => .int (σ.2.1 o j))
  obtain ⟨-, k1, hk1, cm1, hkk1⟩ := hK.2.1.1 (σ.1.2.2 d).2 (fun j => .int (σ.2.1 d j))
  obtain ⟨vm', Y', step⟩ := Y.arraycopy X.1 X.2.2.2.1 (mo_word X hl rfl) (mv_is mv_wCopyN X.2.2.2.2.1) (mv_is mv_wCopyS X.2.2.2.2.1) (mv_is mv_wSys X.2.2.2.2.1) (src := mvAd E o) (dst := mvAd E d) (cs := arrV (E.2.1 20) (σ.1.2.2 o).2 (fun j => .int (σ.2.1 o j))) (cd := arrV (E.2.1 20) (σ.1.2.2 d).2 (fun j => .int (σ.2.1 d j))) (srcPos := sp) (destPos := dp) (n := n) (by rw [hT]; exact hc0) (by rw [hT]; exact hc1)
    (fun _ h => by cases h) (fun _ h => by cases h) (fun h => by cases h) (fun h => by cases h) hk0 hk1 hkk0 hkk1 (by simp [refKind]) h1 h2 h3
    (by rw [mo_nn h1, mo_nn h3, arrV_size]; omega)
    (by rw [mo_nn h2, mo_nn h3, arrV_size]; omega)
    (fun vm₁ _ j hj => by
      have e : (arrV (E.2.1 20) (σ.1.2.2 o).2 (fun j => .int (σ.2.1 o j))).slots.getD (sp.toNatClampNeg + j) .null = .int (σ.2.1 o (sp.toNatClampNeg + j)) := by
        rw [Array.getD_eq_getD_getElem?, arrV_read _ _ (by omega)]
        rfl
      refine ⟨?_, ?_⟩
      · rw [e]
        rfl
      · rw [e]
        exact trivial)
    (g := F0 m pc ls (.int n :: .int dp :: .ref (mvAd E d) :: .int sp :: .ref (mvAd E o) :: st.map (mvTv E))) rfl (by show ls.size = c.maxLocals; rw [hL.2.1, X.2.2.1]) (rest := st.map (mvTv E)) rfl (by rw [X.2.1]; exact hd) hf (by show 2 * 0 + _ + _ ≤ _; omega)
  have e1 : copied (arrV (E.2.1 20) (σ.1.2.2 o).2 (fun j => .int (σ.2.1 o j))) (arrV (E.2.1 20) (σ.1.2.2 d).2 (fun j => .int (σ.2.1 d j))) sp dp n = arrV (E.2.1 20) (σ.1.2.2 d).2 (fun j => .int (va_cpy (σ.2.1 o) (σ.2.1 d) sp.toNatClampNeg dp.toNatClampNeg n.toNatClampNeg j)) := va_copied (fun z => .int z) _ _ (σ.2.1 o) (σ.2.1 d) h4
  rw [e1] at Y' step
  have hl2 : mvAd E d < H.size := (Array.getElem?_eq_some_iff.mp hc1).1
  have hheap : ((T.setVm vm').setCell (mvAd E d) (arrV (E.2.1 20) (σ.1.2.2 d).2 (fun j => .int (va_cpy (σ.2.1 o) (σ.2.1 d) sp.toNatClampNeg dp.toNatClampNeg n.toNatClampNeg j)))).heap = H.setIfInBounds (mvAd E d) (arrV (E.2.1 20) (σ.1.2.2 d).2 (fun j => .int (va_cpy (σ.2.1 o) (σ.2.1 d) sp.toNatClampNeg dp.toNatClampNeg n.toNatClampNeg j))) := by rw [← hT]; rfl
  refine (G _ _ ls (mo_write (o := d) hW d7 rfl (fun id hne => ⟨if_neg hne, rfl, rfl⟩) (H1 := H.setIfInBounds (mvAd E d) (arrV (E.2.1 20) (σ.1.2.2 d).2 (fun j => .int (va_cpy (σ.2.1 o) (σ.2.1 d) sp.toNatClampNeg dp.toNatClampNeg n.toNatClampNeg j)))) (by simp) (fun q hq => by simp [Array.getElem?_setIfInBounds, Ne.symm hq]) (Or.inr (Or.inl ⟨ht, ?_⟩))) hL ?_ _ hheap Y').imp fun t h => ⟨step t h.1, h.2⟩
  · dsimp only
    rw [show (va_up σ.2.1 d (va_cpy (σ.2.1 o) (σ.2.1 d) sp.toNatClampNeg dp.toNatClampNeg n.toNatClampNeg)) d = va_cpy (σ.2.1 o) (σ.2.1 d) sp.toNatClampNeg dp.toNatClampNeg n.toNatClampNeg from if_pos rfl]
    simp [Array.getElem?_setIfInBounds, hl2]
  · intro q hq
    rcases List.mem_append.mp hq with h | h
    · exact hlo q h
    · obtain ⟨z, -, hz⟩ := List.mem_map.mp h
      rw [← hz]
      show (mvH E).size ≤ mvAd E d
      unfold mvAd
      omega
/-! calls -/
/-- a callee's start and end -/
def mvPc (E : mvE) (as : List Value) (σ : mvSt) : Array Value → State → Prop := fun v U => v = (as.map (mvTv E)).toArray ∧ mvWorld E σ U.heap ∧ mvKF E U
def mvQc (E : mvE) (r : Option Value × mvSt) : Array Value → State → Outcome → State → Prop := fun _ _ o t => o = .returned (r.1.map (mvTv E)) ∧ mvWorld E r.2 t.heap
def mvRm (d mc ms : Nat) : Room := { frames := d + 1, cells := mc, slots := ms, locals := 100 * (d + 1) }
def mvMw (k : Nat) : List Cond := .code (mvT k).1 (mvT k).2.1 (mvT k).2.2.1 (mvT k).2.2.2.1 :: mvWs
theorem mvPc_blind (as : List Value) : FrameBlind (mvPc E as σ) := fun _ _ _ _ h => ⟨h.1, h.2.1, h.2.2.same rfl⟩
theorem mo_ran {H : Heap} {locs : List Loc} {ls : Array Slot} {mc ms : Nat} {st0 rest : List Value} {a : Array Value} {r : Option Value × mvSt} (hr : va_Run p l e R s m args below meth c H locs cells slots mc ms (F0 m pc ls st0) (rest.map (mvTv E)) (mvQc E r a) (fun q => (mvH E).size ≤ q))
    (G : mvG E k p l e R s m args below meth c Q (cells + mc) (slots + ms) (pc + 3) L (r.1.toList ++ rest) r.2) (hL : mvLR E ls L (mvT k).2.2.1) (hlo : ∀ q ∈ locs, (mvH E).size ≤ q.base) : W p l e R s m args below meth c H locs cells slots Q (F0 m pc ls st0) := by
  intro T hT Xs
  obtain ⟨v, st₀, t, T', L', h0, X', hL', e1, e2, ⟨ho, hw⟩, st⟩ := hr T hT Xs
  cases ho
  obtain ⟨t2, a1, b1⟩ := G T'.heap (locs ++ L') ls (by rw [e1]; exact hw) hL (fun q hq => (List.mem_append.mp hq).elim (hlo q) (hL' q)) T' rfl X'
  refine ⟨t2, st t2 ?_, b1⟩
  have e9 : (Option.map (mvTv E) r.1).toList ++ rest.map (mvTv E) = (r.1.toList ++ rest).map (mvTv E) := by cases r.1 <;> simp
  show Steps p.tables e below (T'.setTop (F0 m (pc + 3) ls ((Option.map (mvTv E) r.1).toList ++ rest.map (mvTv E)))) t2
  rw [e9]
  exact a1
end MC
