/-! THE LAW'S ENTRY: the abstract machine's first state, and what the Statement gives of it -/
/-! THE CLAIM OUT OF ONE WALK OF THE LAW'S BODY. Your part is whole_start (and what it stands on); all else here is the same for every law, but numbers. -/
def R_law : String := "MoonLodgerLaw"
def lw_P (b : Addr) (xs : List Int32) (args : Array Value) (s : State) : Prop := args = #[.ref b] ∧ s.IntsAt b xs ∧ xs.length ≤ 3072 ∧ (Jvm.Cond.and given_1 narrow_1).before args s = true
def lw_Q (_ : Array Value) (s : State) (o : Outcome) (t : State) : Prop := o = .returned (some (.int 1)) ∧ Framed s o t [] 600000 7302250
def lw_Z (below : List Frame) (a : Array Value) (s : State) : State → Prop := fun t => ∃ o, t.status = .running ∧ Ended t below o ∧ lw_Q a s o t
/-- the law's own end, with 1 on the stack, nothing written that was there before, its room as the claim has it -/
theorem lw_ret {p : Program} {l : Launch} {e : Env} {s : State} {m : MethodId} {below : List Frame} {meth : Method} {c : Code} {b : Nat} (hx : p.tables.exec = Jvm.exec) (hb : c.code = code) (hr : meth.sig.returnType = ret) (hlocks : meth.locks = false) {pc : Nat} {H : Heap} {ls : Array Slot} (hdg : decode code pc = .ok (.ireturn, 1)) : W p l e room_1 s m #[Value.ref b] below meth c H [] 600000 7302250 (lw_Z below #[Value.ref b] s) (F0 m pc ls [.int 1]) := by
  intro T hT X
  obtain ⟨fs, hret, hrun, hended, hW, hframe⟩ := X.leave (v := some (.int 1)) (hlocks := hlocks) (fun h => by rw [hr] at h; cases h)
  have hmeth' : T.vm.method? m = some meth := X.method'
  refine ⟨T.setFrames fs, ?_, .returned (some (.int 1)), hrun, hended, rfl, ⟨_, rfl⟩, hW, hframe⟩
  jvm_step X.here [X.here.top, hx, hb, hdg, hmeth', hr, ret, narrow_b1]
  (try refine ⟨rfl, ?_⟩); (try refine ⟨rfl, ?_⟩)
  first | (intro acts; rw [hret _ acts rfl rfl rfl]) | rw [hret _ _ rfl rfl rfl]
  exact Steps.refl _
/-- what holds at the law's entry: the machine, the code, the tables' words (any of lw_tbl by 'hts w (by decide +kernel)'), the script of L ints xs at the cell b, what the Statement gives of the start (any of its parts by flat_of_before) -/
def lw_At (p : Program) (s : State) (m : MethodId) (meth : Method) (c : Code) (b L : Nat) (xs : Nat → Int32) : Prop :=
  p.tables.exec = Jvm.exec ∧ c.code = code ∧ meth.sig.returnType = ret ∧ c.maxLocals = 4 ∧ s.vm.findClass R_law = some m.cls ∧ (∀ w ∈ lw_tbl, w.before #[Value.ref b] s = true) ∧ va_X b L xs s s.heap ∧ b < s.heap.size ∧ meth.locks = false ∧ (Jvm.Cond.and given_1 narrow_1).before #[Value.ref b] s = true
def msWords : List Int32 := [104, 111, 117, 114, 32, 112, 104, 97, 115, 101, 32, 115, 105, 122, 101, 32, 115, 116, 101, 112, 115, 32, 107, 105, 110, 100, 32, 104, 101, 105, 103, 104, 116, 32, 97, 116, 32, 115, 105, 108, 118, 101, 114, 32, 98, 101, 100, 32, 109, 111, 111, 100, 32, 119, 104, 111, 32, 115, 104, 105, 110, 101, 115, 32, 112, 97, 121, 115, 32, 107, 105, 99, 107, 115, 32, 99, 101, 108, 108, 32, 98, 101, 97, 115, 116, 32, 108, 111, 100, 103, 101, 32, 111, 117, 116, 32, 108, 101, 97, 100, 32, 111, 102, 32, 116, 111, 32, 109, 101, 97, 110, 32, 119, 105, 116, 104, 32, 108, 105, 103, 104, 116, 32, 105, 102, 32, 116, 104, 101, 110, 32, 101, 108, 115, 101, 32, 101, 110, 100, 32, 111, 114, 32, 97, 110, 100, 32, 110, 111, 116, 32]
def msSigns : List Int32 := [60, 62, 61, 35, 43, 45, 42, 47, 40, 41, 59]
def msNames : List Int32 := [7, 7, 7, 1, 1, 1, 5, 2, 2, 4, 4]
def msLen : List Nat := [151, 11]
def msByt : List (List Int32) := [msWords, msSigns]
def msTm (i : Nat) : Term := if i = 0 then .string "MoonLodger$Tape" 34 else .string "MoonLodger$Tape" 78
/-- the first state: a script of L ints xs, the tables, the texts' bytes -/
def msSh (L : Nat) : Nat → Nat × Nat := fun id => match id with
  | 0 => (25, L)
  | 1 => (25, 11)
  | 2 => (13, 2)
  | 3 => (24, 151)
  | 4 => (13, 2)
  | 5 => (24, 11)
  | _ => (99, 0)
def msI (xs : Nat → Int32) : Nat → Nat → Int32 := fun id => match id with
  | 0 => xs
  | 1 => fun j => msNames.getD j 0
  | 3 => fun j => msWords.getD j 0
  | 5 => fun j => msSigns.getD j 0
  | _ => fun _ => 0
def msR : Nat → Nat → Option Nat := fun id => match id with
  | 2 => fun j => match j with
    | 0 => some 3
    | _ => none
  | 4 => fun j => match j with
    | 0 => some 5
    | _ => none
  | _ => fun _ => none
def msSt (L : Nat) (xs : Nat → Int32) : mvSt := ((7, 0, msSh L), msI xs, fun _ _ => 0, msR)
theorem ms_flat : ∀ c ∈ ([.eq (.static "java/lang/String" "COMPACT_STRINGS" "Z") (.int 1), .isRef (.static "jdk/internal/util/Preconditions" "SIOOBE_FORMATTER" "Ljava/util/function/BiFunction;"), .arrayOf (.static "MoonLodger" "NAME_LAWS" "[I") .int, .eq (.length (.static "MoonLodger" "NAME_LAWS" "[I")) (.int 11), .not (.eq (.string "MoonLodger$Tape" 34) (.string "MoonLodger$Tape" 78))] : List Cond), c ∈ flatC (Jvm.Cond.and given_1 narrow_1) := by decide +kernel
theorem ms_flatN : ∀ j, j < 11 → Cond.eq (.elem (.static "MoonLodger" "NAME_LAWS" "[I") (.int (Int32.ofNat j))) (.int (msNames.getD j 0)) ∈ flatC (Jvm.Cond.and given_1 narrow_1) := by decide +kernel
theorem ms_flatS : ∀ i, i < 2 → Cond.exactly (msTm i) "java/lang/String" ∈ flatC (Jvm.Cond.and given_1 narrow_1) ∧ Cond.eq (.field (msTm i) "java/lang/String" "coder" "B") (.int 0) ∈ flatC (Jvm.Cond.and given_1 narrow_1) ∧ Cond.arrayOf (.field (msTm i) "java/lang/String" "value" "[B") .byte ∈ flatC (Jvm.Cond.and given_1 narrow_1) ∧ Cond.eq (.length (.field (msTm i) "java/lang/String" "value" "[B")) (.int (Int32.ofNat (msLen.getD i 0))) ∈ flatC (Jvm.Cond.and given_1 narrow_1) := by decide +kernel
theorem ms_fb0 : ∀ j, j < 19 → (flatC (Jvm.Cond.and given_1 narrow_1))[27 + j]? = some (Cond.eq (.elem (.field (msTm 0) "java/lang/String" "value" "[B") (.int (Int32.ofNat (0 + j)))) (.int (msWords.getD (0 + j) 0))) := by decide +kernel
theorem ms_fb1 : ∀ j, j < 19 → (flatC (Jvm.Cond.and given_1 narrow_1))[46 + j]? = some (Cond.eq (.elem (.field (msTm 0) "java/lang/String" "value" "[B") (.int (Int32.ofNat (19 + j)))) (.int (msWords.getD (19 + j) 0))) := by decide +kernel
theorem ms_fb2 : ∀ j, j < 19 → (flatC (Jvm.Cond.and given_1 narrow_1))[65 + j]? = some (Cond.eq (.elem (.field (msTm 0) "java/lang/String" "value" "[B") (.int (Int32.ofNat (38 + j)))) (.int (msWords.getD (38 + j) 0))) := by decide +kernel
theorem ms_fb3 : ∀ j, j < 19 → (flatC (Jvm.Cond.and given_1 narrow_1))[84 + j]? = some (Cond.eq (.elem (.field (msTm 0) "java/lang/String" "value" "[B") (.int (Int32.ofNat (57 + j)))) (.int (msWords.getD (57 + j) 0))) := by decide +kernel
theorem ms_fb4 : ∀ j, j < 19 → (flatC (Jvm.Cond.and given_1 narrow_1))[103 + j]? = some (Cond.eq (.elem (.field (msTm 0) "java/lang/String" "value" "[B") (.int (Int32.ofNat (76 + j)))) (.int (msWords.getD (76 + j) 0))) := by decide +kernel
theorem ms_fb5 : ∀ j, j < 19 → (flatC (Jvm.Cond.and given_1 narrow_1))[122 + j]? = some (Cond.eq (.elem (.field (msTm 0) "java/lang/String" "value" "[B") (.int (Int32.ofNat (95 + j)))) (.int (msWords.getD (95 + j) 0))) := by decide +kernel
theorem ms_fb6 : ∀ j, j < 19 → (flatC (Jvm.Cond.and given_1 narrow_1))[141 + j]? = some (Cond.eq (.elem (.field (msTm 0) "java/lang/String" "value" "[B") (.int (Int32.ofNat (114 + j)))) (.int (msWords.getD (114 + j) 0))) := by decide +kernel
theorem ms_fb7 : ∀ j, j < 18 → (flatC (Jvm.Cond.and given_1 narrow_1))[160 + j]? = some (Cond.eq (.elem (.field (msTm 0) "java/lang/String" "value" "[B") (.int (Int32.ofNat (133 + j)))) (.int (msWords.getD (133 + j) 0))) := by decide +kernel
theorem ms_flatB0 : ∀ j, j < 151 → Cond.eq (.elem (.field (msTm 0) "java/lang/String" "value" "[B") (.int (Int32.ofNat j))) (.int (msWords.getD j 0)) ∈ flatC (Jvm.Cond.and given_1 narrow_1) := by
  intro j hj
  by_cases h0 : j < 19
  · have := ms_fb0 (j - 0) (by omega)
    rw [show 0 + (j - 0) = j by omega] at this
    exact List.mem_of_getElem? this
  by_cases h1 : j < 38
  · have := ms_fb1 (j - 19) (by omega)
    rw [show 19 + (j - 19) = j by omega] at this
    exact List.mem_of_getElem? this
  by_cases h2 : j < 57
  · have := ms_fb2 (j - 38) (by omega)
    rw [show 38 + (j - 38) = j by omega] at this
    exact List.mem_of_getElem? this
  by_cases h3 : j < 76
  · have := ms_fb3 (j - 57) (by omega)
    rw [show 57 + (j - 57) = j by omega] at this
    exact List.mem_of_getElem? this
  by_cases h4 : j < 95
  · have := ms_fb4 (j - 76) (by omega)
    rw [show 76 + (j - 76) = j by omega] at this
    exact List.mem_of_getElem? this
  by_cases h5 : j < 114
  · have := ms_fb5 (j - 95) (by omega)
    rw [show 95 + (j - 95) = j by omega] at this
    exact List.mem_of_getElem? this
  by_cases h6 : j < 133
  · have := ms_fb6 (j - 114) (by omega)
    rw [show 114 + (j - 114) = j by omega] at this
    exact List.mem_of_getElem? this
  by_cases h7 : j < 151
  · have := ms_fb7 (j - 133) (by omega)
    rw [show 133 + (j - 133) = j by omega] at this
    exact List.mem_of_getElem? this
  omega
theorem ms_flatB1 : ∀ j, j < 11 → Cond.eq (.elem (.field (msTm 1) "java/lang/String" "value" "[B") (.int (Int32.ofNat j))) (.int (msSigns.getD j 0)) ∈ flatC (Jvm.Cond.and given_1 narrow_1) := by decide +kernel
theorem ms_flatB : ∀ i, i < 2 → ∀ j, j < msLen.getD i 0 → Cond.eq (.elem (.field (msTm i) "java/lang/String" "value" "[B") (.int (Int32.ofNat j))) (.int ((msByt.getD i []).getD j 0)) ∈ flatC (Jvm.Cond.and given_1 narrow_1) := by
  intro i hi j hj
  rcases (show i = 0 ∨ i = 1 by omega) with rfl | rfl
  · exact ms_flatB0 j hj
  · exact ms_flatB1 j hj
theorem ms_w1 : Cond.laysStatic "java/lang/String" "COMPACT_STRINGS" "Z" ∈ lw_tbl ∧ Cond.laysStatic "MoonLodger" "NAME_LAWS" "[I" ∈ lw_tbl ∧ Cond.laysStatic "jdk/internal/util/Preconditions" "SIOOBE_FORMATTER" "Ljava/util/function/BiFunction;" ∈ lw_tbl ∧ Cond.initialized "java/lang/String" ∈ lw_tbl ∧ Cond.initialized "MoonLodger" ∈ lw_tbl ∧ Cond.initialized "jdk/internal/util/Preconditions" ∈ lw_tbl ∧ Cond.arrayClass .int ∈ lw_tbl ∧ Cond.arrayClass .long ∈ lw_tbl ∧ Cond.arrayClass .boolean ∈ lw_tbl ∧ Cond.arrayOver (.object "MoonLodger$Text") ∈ lw_tbl := by decide +kernel
theorem ms_w2 : Cond.stringRef "MoonLodger$Tape" 34 "hour phase size steps kind height at silver bed mood who shines pays kicks cell beast lodge out lead of to mean with light if then else end or and not " ∈ lw_tbl ∧ Cond.stringRef "MoonLodger$Tape" 78 "<>=#+-*/();" ∈ lw_tbl := by decide +kernel
theorem ms_arr {args : Array Value} {s : State} {ty : FieldType} (h : (Cond.arrayClass ty).before args s = true) : ∃ cA, ArrOfT s cA ty ∧ s.vm.findClass ("[" ++ ty.toString) = some cA := by
  obtain ⟨cA, kA, comp, h1, h2, h3⟩ := Cond.arrayClass_spec h
  exact ⟨cA, fun n z => ⟨fun k h => (by cases h), kA, h2, comp, h3⟩, h1⟩
theorem ms_isRef {args : Array Value} {s : State} {t : Term} (h : (Cond.isRef t).before args s = true) : ∃ r : Option Nat, t.eval args s none [] s = some (va_rf r) := by
  cases hv : t.eval args s none [] s with
  | none => simp [Cond.before, Cond.holds, Cond.value, hv] at h
  | some w =>
    cases w with
    | null => exact ⟨none, rfl⟩
    | ref a => exact ⟨some a, rfl⟩
    | _ => simp [Cond.before, Cond.holds, Cond.value, hv, Value.isRef] at h
/-- the fixed things of a run exist -/
theorem ms_env {s : State} {b L : Nat} {xs : Nat → Int32} (hL : L ≤ 3072) (hts : ∀ w ∈ lw_tbl, w.before #[Value.ref b] s = true) (hX : va_X b L xs s s.heap) (hbl : b < s.heap.size) (hgv : (Jvm.Cond.and given_1 narrow_1).before #[Value.ref b] s = true) :
    ∃ E : mvE, mvH E = s.heap ∧ mvKF E s ∧ mvWorld E (msSt L xs) s.heap ∧ mvTv E (.ref 0) = .ref b := by
  have hs := flat_of_before _ hgv
  have hmem := ms_flat
  have hw := ms_w1
  have hA : ∀ a : Nat, a < s.heap.size → ¬ (fun q : Nat => s.heap.size ≤ q) a := fun a h => Nat.not_le.mpr h
  have hKn : ∀ a, a < 13 → ∃ (cC : ClassId) (iS : Nat → Nat), u_Kn s (mvCn a) (mvF a) (mvNf a) cC iS := by
    intro a ha
    have hok := mv_newOk a ha
    rw [Bool.and_eq_true] at hok
    have h1 := hok.1
    unfold mvIsW at h1
    rw [Bool.and_eq_true] at h1
    exact u_known hts (fun w h => (List.mem_filter.mp (mv_lay ha w h)).1) (hts _ (of_decide_eq_true h1.1))
  obtain ⟨dC, dI, hD⟩ : ∃ (dC : Nat → ClassId) (dI : Nat → Nat → Nat), ∀ a, a < 13 → u_Kn s (mvCn a) (mvF a) (mvNf a) (dC a) (dI a) := by
    have h0 : ∀ a, ∃ q : ClassId × (Nat → Nat), a < 13 → u_Kn s (mvCn a) (mvF a) (mvNf a) q.1 q.2 := by
      intro a
      by_cases ha : a < 13
      · obtain ⟨cC, iS, h⟩ := hKn a ha
        exact ⟨(cC, iS), fun _ => h⟩
      · exact ⟨(0, fun _ => 0), fun h => absurd h ha⟩
    obtain ⟨f, hf⟩ := Classical.axiomOfChoice h0
    exact ⟨fun a => (f a).1, fun a => (f a).2, hf⟩
  obtain ⟨cI, hI1, hI2⟩ := ms_arr (hts _ hw.2.2.2.2.2.2.1)
  obtain ⟨cL, hL1, hL2⟩ := ms_arr (hts _ hw.2.2.2.2.2.2.2.1)
  obtain ⟨cZ, hZ1, hZ2⟩ := ms_arr (hts _ hw.2.2.2.2.2.2.2.2.1)
  have hAO : va_AO "MoonLodger$Text" s := va_AO.of (hts _ hw.2.2.2.2.2.2.2.2.2)
  obtain ⟨comp, cT, kT, hT1, -, hT3, hT4, hT5⟩ := Cond.arrayOver_spec hAO
  have hNL := va_Tof (s := s) (args := #[Value.ref b]) (tm := .static "MoonLodger" "NAME_LAWS" "[I") (ty := .int) (N := 11) (f := fun j => .int (msNames.getD j 0)) (A := fun q => s.heap.size ≤ q) (by decide) (hs _ (hmem _ (by decide +kernel))) (va_eqt (hs _ (hmem _ (by decide +kernel)))) (fun j hj => va_eqt (hs _ (ms_flatN j hj))) hA
  obtain ⟨nl, hnl1, hnl2⟩ := hNL
  obtain ⟨adK, adV, hS, hSe⟩ := vk_Sof (s := s) (args := #[Value.ref b]) (N := 2) (tm := msTm) (len := msLen) (byt := msByt) (A := fun q => s.heap.size ≤ q) (by decide) (fun i hi => hs _ (ms_flatS i hi).1) (fun i hi => hs _ (ms_flatS i hi).2.1) (fun i hi => hs _ (ms_flatS i hi).2.2.1) (fun i hi => hs _ (ms_flatS i hi).2.2.2) (fun i hi j hj => hs _ (ms_flatB i hi j hj))
    (fun i j hi hj hij => by
      have h9 := hs _ (hmem (.not (.eq (.string "MoonLodger$Tape" 34) (.string "MoonLodger$Tape" 78))) (by decide +kernel))
      rcases (show (i = 0 ∧ j = 1) ∨ (i = 1 ∧ j = 0) by omega) with ⟨rfl, rfl⟩ | ⟨rfl, rfl⟩
      · exact Or.inl h9
      · exact Or.inr h9) hA
  obtain ⟨fo, hfo⟩ := ms_isRef (hs _ (hmem (.isRef (.static "jdk/internal/util/Preconditions" "SIOOBE_FORMATTER" "Ljava/util/function/BiFunction;")) (by decide +kernel)))
  obtain ⟨hS0, -⟩ := hS
  have hK0 := hS0 0 (by decide)
  have hK1 := hS0 1 (by decide)
  obtain ⟨lo, hlo⟩ : ∃ lo : Nat → Option Nat, lo = fun id => match id with
    | 0 => some b
    | 1 => some nl
    | 2 => some (adK 0)
    | 3 => some (adV 0)
    | 4 => some (adK 1)
    | 5 => some (adV 1)
    | _ => fo := ⟨_, rfl⟩
  obtain ⟨cA, hcA⟩ : ∃ cA : Nat → ClassId, cA = fun t => match t with
    | 20 => cI
    | 21 => cL
    | 22 => cZ
    | _ => cT := ⟨_, rfl⟩
  have hXT : va_T .int b L (fun j => .int (xs j)) (fun q => s.heap.size ≤ q) s s.heap := by
    obtain ⟨scr, g1, g2, g3, g4, g5⟩ := hX
    exact ⟨scr, g1, g2, g3, by omega, by rw [g4], g5, hA b hbl⟩
  refine ⟨((dC, dI), cA, s.heap, lo, msSh L, msI xs, msR), rfl, ?_, ?_, ?_⟩
  · subst hlo hcA
    refine ⟨?_, ⟨hI1, hI2⟩, ⟨hL1, hL2⟩, ⟨hZ1, hZ2⟩, ⟨fun n z => ⟨fun k h => (by cases h), kT, hT3, comp, hT4⟩, ⟨kT, comp, hT3, hT4, hT1, hT5⟩, hAO⟩, ?_, ?_, ?_, ?_, ?_, ?_, ?_, ?_, ?_, ?_⟩
    · intro a q hq
      have ha : a < 13 := (List.getElem?_eq_some_iff.mp hq).1
      rw [mv_gc a ha] at hq
      cases hq
      exact hD a ha
    · intro id hid
      show (msSh L id).1 = 13 ∨ (msSh L id).1 = 24 ∨ (msSh L id).1 = 25 ∨ (msSh L id).1 = 99
      rcases (show id = 0 ∨ id = 1 ∨ id = 2 ∨ id = 3 ∨ id = 4 ∨ id = 5 ∨ id = 6 by omega) with rfl | rfl | rfl | rfl | rfl | rfl | rfl
      · exact Or.inr (Or.inr (Or.inl rfl))
      · exact Or.inr (Or.inr (Or.inl rfl))
      · exact Or.inl rfl
      · exact Or.inr (Or.inl rfl)
      · exact Or.inl rfl
      · exact Or.inr (Or.inl rfl)
      · exact Or.inr (Or.inr (Or.inr rfl))
    · intro id hid ht
      rcases (show id = 0 ∨ id = 1 ∨ id = 2 ∨ id = 3 ∨ id = 4 ∨ id = 5 ∨ id = 6 by omega) with rfl | rfl | rfl | rfl | rfl | rfl | rfl
      · exact ⟨b, rfl, hXT⟩
      · exact ⟨nl, rfl, hnl2⟩
      all_goals cases ht
    · intro id hid ht
      rcases (show id = 0 ∨ id = 1 ∨ id = 2 ∨ id = 3 ∨ id = 4 ∨ id = 5 ∨ id = 6 by omega) with rfl | rfl | rfl | rfl | rfl | rfl | rfl
      · cases ht
      · cases ht
      · cases ht
      · exact ⟨adV 0, rfl, hK0.2.2.2⟩
      · cases ht
      · exact ⟨adV 1, rfl, hK1.2.2.2⟩
      · cases ht
    · intro id hid ht
      rcases (show id = 0 ∨ id = 1 ∨ id = 2 ∨ id = 3 ∨ id = 4 ∨ id = 5 ∨ id = 6 by omega) with rfl | rfl | rfl | rfl | rfl | rfl | rfl
      · cases ht
      · cases ht
      · exact ⟨adK 0, rfl, hK0.1, hK0.2.1, hK0.2.2.1⟩
      · cases ht
      · exact ⟨adK 1, rfl, hK1.1, hK1.2.1, hK1.2.2.1⟩
      · cases ht
      · cases ht
    · exact ⟨adK 0, _, rfl, vk_R.of (hts _ ms_w2.1) (hSe 0 (by decide))⟩
    · exact ⟨adK 1, _, rfl, vk_R.of (hts _ ms_w2.2) (hSe 1 (by decide))⟩
    · exact va_Zof (hts _ hw.1) (hts _ hw.2.2.2.1) (va_eqi (hs _ (hmem _ (by decide +kernel)))) hA
    · exact va_Zof (hts _ hw.2.1) (hts _ hw.2.2.2.2.1) hnl1 hA
    · exact va_Zof (hts _ hw.2.2.1) (hts _ hw.2.2.2.2.2.1) hfo hA
    · intro id hid hne
      rcases (show id = 0 ∨ id = 1 ∨ id = 2 ∨ id = 3 ∨ id = 4 ∨ id = 5 by omega) with rfl | rfl | rfl | rfl | rfl | rfl
      · exact ⟨b, rfl⟩
      · exact ⟨nl, rfl⟩
      · exact ⟨adK 0, rfl⟩
      · exact ⟨adV 0, rfl⟩
      · exact ⟨adK 1, rfl⟩
      · exact ⟨adV 1, rfl⟩
  · refine ⟨Nat.le_refl _, rfl, fun q _ => rfl, fun id hid => ?_, fun id h1 h2 => ?_, fun id hid => ⟨rfl, rfl, rfl⟩⟩
    · have hid : 7 ≤ id := hid
      match id, hid with
      | n + 7, _ => rfl
    · have h2 : id < 7 := h2
      omega
  · subst hlo
    rfl
/-- the law's walk out of a run of the abstract machine -/
theorem ms_start {p : Program} {e : Env} {s : State} {m : MethodId} {below : List Frame} {meth : Method} {c : Code} (l : Launch) {b L : Nat} {xs : Nat → Int32} (hL : L ≤ 3072) (C0 : lw_At p s m meth c b L xs) {n d : Nat} {σ' : mvSt} (hd : d ≤ 800)
    (hrun : mvRun n d 0 0 (mvLs 4 [.ref 0]) [] (msSt L xs) = some (some (.int 1), σ')) (hc : σ'.1.1 - 7 ≤ 600000) (hsl : σ'.1.2.1 ≤ 7302250) :
    W p l e room_1 s m #[Value.ref b] below meth c s.heap [] 0 0 (lw_Z below #[Value.ref b] s) (entryFrame m ([Value.ref b] : List Value).toArray 4) := by
  obtain ⟨hx, hb, hr, hml, hown, hts, hX, hbl, hlocks, hgv⟩ := C0
  obtain ⟨E, hE, hK, hW, hb0⟩ := ms_env hL hts hX hbl hgv
  have X : mvCx E 0 p s m #[Value.ref b] meth c := ⟨hx, hb, hml, hown, fun w hw => hts w (List.mem_filter.mp hw).1, fun h => absurd h (by decide), hK⟩
  have hent := mv_entry E (as := [.ref 0]) (n := 4) rfl
  rw [lg_entry_eq]
  have e1 : ([.ref 0] : List Value).map (mvTv E) = [Value.ref b] := by rw [List.map_cons, hb0]; rfl
  rw [e1] at hent
  refine mv_sound E n d 0 0 _ [] _ _ (by decide) hrun p l e room_1 s m #[Value.ref b] below meth c (lw_Z below #[Value.ref b] s) 0 0 X (by show d + 1 ≤ 2048; omega) (by show 100 * (d + 1) ≤ 84000; omega) (by show 0 + (σ'.1.1 - 7) ≤ 600000; omega) (by show 0 + (σ'.1.2.1 - 0) ≤ 7302250; omega) ?_ s.heap [] _ hW hent (fun q hq => by cases hq)
  intro H locs ls pc' hW' hlo hrf
  have hlo' : ∀ q ∈ locs, s.heap.size ≤ q.base := by rw [← hE]; exact hlo
  refine va_forget hlo' ?_
  refine W.widen (k := 600000) (n := 7302250) (by show 0 + (σ'.1.1 - 7) ≤ 600000; omega) (by show 0 + (σ'.1.2.1 - 0) ≤ 7302250; omega) ?_
  rcases hrf with ⟨x, ty, e1, hd, e2, e3⟩ | ⟨x, e1, hd, e2⟩ | ⟨x, nm, e1, hx, hd, e2⟩ | ⟨e1, hd, e2⟩
  · exact lw_ret hx hb hr hlocks hd
  · cases e1
  · cases e1
    rcases hx with hx | ⟨o, hx⟩ <;> cases hx
  · cases e1
