/-! THE ABSTRACT STATE AND THE HEAP -/
/-- what is fixed of a run: class numbers and slots, array classes by tag, the heap at the law's entry, where the first seven ids lie, and what they hold -/
abbrev mvE : Type := va_G × (Nat → ClassId) × Heap × (Nat → Option Nat) × (Nat → Nat × Nat) × (Nat → Nat → Int32) × (Nat → Nat → Option Nat)
def mvH (E : mvE) : Heap := E.2.2.1
def mvLo (E : mvE) (id : Nat) : Option Nat := if id < 7 then E.2.2.2.1 id else some ((mvH E).size + (id - 7))
def mvTv (E : mvE) : Value → Value
  | .ref a => va_rf (mvLo E a)
  | v => v
def mvAd (E : mvE) (id : Nat) : Nat := (mvH E).size + (id - 7)
theorem mvLo_own {E : mvE} {id : Nat} (h : 7 ≤ id) : mvLo E id = some (mvAd E id) := if_neg (by omega)
theorem mvTv_own {E : mvE} {id : Nat} (h : 7 ≤ id) : mvTv E (.ref id) = .ref (mvAd E id) := by
  show va_rf (mvLo E id) = _
  rw [mvLo_own h]
  rfl
theorem mvTv_cat (E : mvE) (v : Value) : (mvTv E v).category = v.category := by
  cases v with
  | ref a =>
    show (va_rf (mvLo E a)).category = 1
    cases mvLo E a <;> rfl
  | _ => rfl
theorem mvTv_cats (E : mvE) (l : List Value) : ((l.map (mvTv E)).map fun v => v.category).sum = (l.map fun v => v.category).sum := by
  rw [List.map_map]
  congr 1
  exact List.map_congr_left fun v _ => mvTv_cat E v
/-- the cell of an id of ours -/
def mvCell (E : mvE) (id : Nat) (t : Nat × Nat) (fi : Nat → Int32) (fl : Nat → Int64) (fr : Nat → Option Nat) (H : Heap) : Prop :=
  (t.1 < 13 ∧ ∃ cell : Cell, H[mvAd E id]? = some cell ∧ cell.cls = E.1.1 t.1 ∧ cell.vm = .none ∧ ∀ k, k < mvNf t.1 → cell.slots[E.1.2 t.1 k]? = some (mvTv E (mvFv t.1 k fi fl fr)))
  ∨ (t.1 = 20 ∧ H[mvAd E id]? = some (arrV (E.2.1 20) t.2 (fun j => .int (fi j))))
  ∨ (t.1 = 21 ∧ H[mvAd E id]? = some (arrV (E.2.1 21) t.2 (fun j => .long (fl j))))
  ∨ (t.1 = 22 ∧ H[mvAd E id]? = some (arrV (E.2.1 22) t.2 (fun j => .int (fi j))))
  ∨ (t.1 = 23 ∧ H[mvAd E id]? = some (arrV (E.2.1 23) t.2 (fun j => mvTv E (mvRv (fr j)))))
theorem mvCell.kept {E : mvE} {id : Nat} {t : Nat × Nat} {fi : Nat → Int32} {fl : Nat → Int64} {fr : Nat → Option Nat} {H H1 : Heap} (h : mvCell E id t fi fl fr H) (hq : H1[mvAd E id]? = H[mvAd E id]?) : mvCell E id t fi fl fr H1 := by
  unfold mvCell at h ⊢
  rw [hq]
  exact h
/-- the heap holds the state -/
def mvWorld (E : mvE) (σ : mvSt) (H : Heap) : Prop :=
  7 ≤ σ.1.1 ∧ H.size = (mvH E).size + (σ.1.1 - 7) ∧ (∀ q, q < (mvH E).size → H[q]? = (mvH E)[q]?) ∧ (∀ id, σ.1.1 ≤ id → (σ.1.2.2 id).1 = 99)
  ∧ (∀ id, 7 ≤ id → id < σ.1.1 → mvCell E id (σ.1.2.2 id) (σ.2.1 id) (σ.2.2.1 id) (σ.2.2.2 id) H)
  ∧ ∀ id, id < 7 → σ.1.2.2 id = E.2.2.2.2.1 id ∧ σ.2.1 id = E.2.2.2.2.2.1 id ∧ σ.2.2.2 id = E.2.2.2.2.2.2 id
/-- the cells that are ours -/
def mvA (E : mvE) : Nat → Prop := fun q => (mvH E).size ≤ q
/-- what the tables say, and what lies before the law's entry -/
def mvKF (E : mvE) (U : State) : Prop :=
  (∀ (c : Nat) (q : vw_C), gC[c]? = some q → u_Kn U q.1 q.2.1 q.2.2 (E.1.1 c) (E.1.2 c))
  ∧ (ArrOfT U (E.2.1 20) .int ∧ U.vm.findClass ("[" ++ (newarray.typeOf .int).toString) = some (E.2.1 20))
  ∧ (ArrOfT U (E.2.1 21) .long ∧ U.vm.findClass ("[" ++ (newarray.typeOf .long).toString) = some (E.2.1 21))
  ∧ (ArrOfT U (E.2.1 22) .boolean ∧ U.vm.findClass ("[" ++ (newarray.typeOf .boolean).toString) = some (E.2.1 22))
  ∧ (ArrOfT U (E.2.1 23) (.object "MoonLodger$Text") ∧ va_RA U (E.2.1 23) (.object "MoonLodger$Text") ∧ va_AO "MoonLodger$Text" U)
  ∧ (∀ id, id < 7 → (E.2.2.2.2.1 id).1 = 13 ∨ (E.2.2.2.2.1 id).1 = 24 ∨ (E.2.2.2.2.1 id).1 = 25 ∨ (E.2.2.2.2.1 id).1 = 99)
  ∧ (∀ id, id < 7 → (E.2.2.2.2.1 id).1 = 25 → ∃ a, E.2.2.2.1 id = some a ∧ va_T .int a (E.2.2.2.2.1 id).2 (fun j => .int (E.2.2.2.2.2.1 id j)) (mvA E) U (mvH E))
  ∧ (∀ id, id < 7 → (E.2.2.2.2.1 id).1 = 24 → ∃ a, E.2.2.2.1 id = some a ∧ va_T .byte a (E.2.2.2.2.1 id).2 (fun j => .int (E.2.2.2.2.2.1 id j)) (mvA E) U (mvH E))
  ∧ (∀ id, id < 7 → (E.2.2.2.2.1 id).1 = 13 → ∃ a, E.2.2.2.1 id = some a ∧ va_O "java/lang/String" a (mvA E) U (mvH E) ∧ va_OF "java/lang/String" "coder" "B" (.int (E.2.2.2.2.2.1 id 1)) a (mvA E) U (mvH E) ∧ va_OF "java/lang/String" "value" "[B" (mvTv E (mvRv (E.2.2.2.2.2.2 id 0))) a (mvA E) U (mvH E))
  ∧ (∃ a tx, E.2.2.2.1 2 = some a ∧ vk_R "MoonLodger$Tape" 34 tx a U) ∧ (∃ a tx, E.2.2.2.1 4 = some a ∧ vk_R "MoonLodger$Tape" 78 tx a U)
  ∧ va_Z "java/lang/String" "COMPACT_STRINGS" "Z" (.int 1) (mvA E) U (mvH E)
  ∧ va_Z "MoonLodger" "NAME_LAWS" "[I" (mvTv E (.ref 1)) (mvA E) U (mvH E)
  ∧ va_Z "jdk/internal/util/Preconditions" "SIOOBE_FORMATTER" "Ljava/util/function/BiFunction;" (mvTv E (.ref 6)) (mvA E) U (mvH E)
  ∧ (∀ id, id < 7 → id ≠ 6 → ∃ a, E.2.2.2.1 id = some a)
theorem mvKF.gen {E : mvE} {u U : State} (hvm : u.vm.Alike U.vm) (hR : ∀ {own tx : String} {k a : Nat}, vk_R own k tx a u → vk_R own k tx a U) (h : mvKF E u) : mvKF E U := by
  obtain ⟨h1, ⟨h2, h2'⟩, ⟨h3, h3'⟩, ⟨h4, h4'⟩, ⟨h5, h5', h5''⟩, h6, h7, h8, h9, ⟨a1, t1, h10, h10'⟩, ⟨a2, t2, h11, h11'⟩, h12, h13, h14, h15⟩ := h
  refine ⟨fun c q hq => u_Kn_moved hvm (h1 c q hq), ⟨arrOfT_moved hvm h2, by rw [hvm.findClass]; exact h2'⟩, ⟨arrOfT_moved hvm h3, by rw [hvm.findClass]; exact h3'⟩, ⟨arrOfT_moved hvm h4, by rw [hvm.findClass]; exact h4'⟩, ⟨arrOfT_moved hvm h5, h5'.moved hvm, va_AO.moved hvm h5''⟩, h6, ?_, ?_, ?_, ⟨a1, t1, h10, hR h10'⟩, ⟨a2, t2, h11, hR h11'⟩, va_Z.moved hvm h12, va_Z.moved hvm h13, va_Z.moved hvm h14, h15⟩
  · intro id h i
    obtain ⟨a, b, d⟩ := h7 id h i
    exact ⟨a, b, va_T.moved hvm d⟩
  · intro id h i
    obtain ⟨a, b, d⟩ := h8 id h i
    exact ⟨a, b, va_T.moved hvm d⟩
  · intro id h i
    obtain ⟨a, b, d, f, g⟩ := h9 id h i
    exact ⟨a, b, va_O.moved hvm d, va_OF.moved hvm f, va_OF.moved hvm g⟩
theorem mvKF.warm {E : mvE} {s U : State} (hW : s.WarmedH U.vm) (h : mvKF E s) : mvKF E U := h.gen hW.alike (fun r => r.warm hW)
theorem mvKF.same {E : mvE} {u U : State} (hv : U.vm = u.vm) (h : mvKF E u) : mvKF E U := h.gen (by rw [hv]; exact Vm.Alike.refl _) (fun r => r.same hv)
/-- the words that stay as the tables warm -/
def mvNest : Cond → Bool
  | .fieldLinkNest .. => true
  | .methodLinkNest .. => true
  | _ => false
def mvKeep (w : Cond) : Bool := goodWord w || mvNest w
def mvWs : List Cond := lw_tbl.filter mvKeep
theorem mv_warm {w : Cond} (hk : mvKeep w = true) {A A' : Array Value} {s U : State} (hW : s.WarmedH U.vm) (h : w.before A s = true) : w.before A' U = true := by
  unfold mvKeep at hk
  rw [Bool.or_eq_true] at hk
  rcases hk with hk | hk
  · exact word_at hW (good_of_word hk) h
  · cases w with
    | fieldLinkNest a i b n d ho => exact va_Nw.use rfl (va_Nw.warmF hW (va_Nw.of rfl h))
    | methodLinkNest a i x ho => exact va_Nw.use rfl (va_Nw.warmM hW (va_Nw.of rfl h))
    | _ => cases hk
theorem mv_word {w : Nat} {c : Cond} (h : mvWd w c = true) (hk : mvKeep c = true) {A : Array Value} {s : State} (hts : ∀ w ∈ mvWs, w.before A s = true) : c.before A s = true :=
  hts c (List.mem_filter.mpr ⟨List.mem_of_getElem? (of_decide_eq_true h), hk⟩)
/-- what a method's frame knows -/
def mvCx (E : mvE) (k : Nat) (p : Program) (s : State) (m : MethodId) (args : Array Value) (meth : Method) (c : Code) : Prop :=
  p.tables.exec = Jvm.exec ∧ c.code = (mvT k).2.1 ∧ c.maxLocals = (mvT k).2.2.1 ∧ s.vm.findClass (mvT k).1.cls = some m.cls ∧ (∀ w ∈ mvWs, w.before args s = true) ∧ ((mvT k).2.2.2.2.1 = 2 → meth.name = (mvT k).1.name) ∧ mvKF E s
/-! locals -/
def mvDef : Value → Bool
  | .float _ => false
  | _ => true
def mvLR (E : mvE) (ls : Array Slot) (L : List Value) (n : Nat) : Prop := L.length = n ∧ ls.size = n ∧ lv_wf ls ∧ ∀ (i : Nat) (v : Value), L[i]? = some v → mvDef v = true → ls[i]? = some (.val (mvTv E v))
def mvLv (E : mvE) (L : List Value) : List (Nat × Value) := (List.range L.length).filterMap fun i => match L[i]? with
  | some v => if mvDef v = true then some (i, mvTv E v) else none
  | none => none
theorem mvLv_mem {E : mvE} {L : List Value} {q : Nat × Value} : q ∈ mvLv E L ↔ ∃ i v, L[i]? = some v ∧ mvDef v = true ∧ q = (i, mvTv E v) := by
  unfold mvLv
  rw [List.mem_filterMap]
  constructor
  · rintro ⟨i, -, hi⟩
    cases hv : L[i]? with
    | none => rw [hv] at hi; cases hi
    | some v =>
      rw [hv] at hi
      by_cases hd : mvDef v = true
      · simp only [hd, if_true] at hi
        exact ⟨i, v, rfl.trans hv, hd, (Option.some.inj hi).symm⟩
      · simp only [hd] at hi
        cases hi
  · rintro ⟨i, v, hv, hd, rfl⟩
    refine ⟨i, List.mem_range.mpr (List.getElem?_eq_some_iff.mp hv).1, ?_⟩
    rw [hv]
    simp only [hd, if_true]
theorem mvLR.has {E : mvE} {ls : Array Slot} {L : List Value} {n : Nat} (h : mvLR E ls L n) : lv_has ls n (mvLv E L) := by
  obtain ⟨h1, h2, h3, h4⟩ := h
  refine ⟨h2, h3, fun q hq => ?_⟩
  obtain ⟨i, v, hv, hd, rfl⟩ := mvLv_mem.mp hq
  exact h4 i v hv hd
theorem mvLR.of {E : mvE} {ls : Array Slot} {L : List Value} {n : Nat} {l : List (Nat × Value)} (h : lv_has ls n l) (hn : L.length = n) (hl : ∀ (i : Nat) (v : Value), L[i]? = some v → mvDef v = true → (i, mvTv E v) ∈ l) : mvLR E ls L n :=
  ⟨hn, h.1, h.2.1, fun i v hv hd => h.2.2 _ (hl i v hv hd)⟩
theorem mvSto_len (L : List Value) (i : Nat) (v : Value) : (mvSto L i v).length = L.length := by
  unfold mvSto
  cases mvIsL (L.getD (i - 1) mvU) <;> simp
theorem mvSto2_len (L : List Value) (i : Nat) (v : Value) : (mvSto2 L i v).length = L.length := by
  unfold mvSto2
  rw [List.length_set, mvSto_len]
theorem mvIsL_cat {v : Value} : mvIsL v = true ↔ v.category = 2 := by cases v <;> simp [mvIsL, Value.category]
/-- what lies in a local behind a store elsewhere -/
theorem mvSto_at {L : List Value} {i j : Nat} {v u : Value} (hj : j ≠ i) (h : (mvSto L i v)[j]? = some u) (hd : mvDef u = true) : L[j]? = some u ∧ ¬ (j + 1 = i ∧ u.category = 2) := by
  unfold mvSto at h
  rw [List.getElem?_set_ne (Ne.symm hj)] at h
  cases hb : mvIsL (L.getD (i - 1) mvU) with
  | false =>
    rw [hb] at h
    refine ⟨h, fun ⟨e, c⟩ => ?_⟩
    have h1 : L[i - 1]? = some u := by rw [show i - 1 = j by omega]; exact h
    rw [List.getD_eq_getElem?_getD, h1] at hb
    rw [show (some u).getD mvU = u from rfl, mvIsL_cat.mpr c] at hb
    cases hb
  | true =>
    rw [hb] at h
    by_cases hi : j = i - 1
    · subst hi
      have hlt : i - 1 < L.length := by
        have := (List.getElem?_eq_some_iff.mp h).1
        simpa using this
      rw [show (bif true then L.set (i - 1) mvU else L) = L.set (i - 1) mvU from rfl, List.getElem?_set_self hlt] at h
      cases h
      cases hd
    · rw [show (bif true then L.set (i - 1) mvU else L) = L.set (i - 1) mvU from rfl, List.getElem?_set_ne (Ne.symm hi)] at h
      exact ⟨h, fun ⟨e, c⟩ => hi (by omega)⟩
theorem mvSto_self {L : List Value} {i : Nat} {v u : Value} (h : (mvSto L i v)[i]? = some u) : u = v := by
  unfold mvSto at h
  have hlt := (List.getElem?_eq_some_iff.mp h).1
  rw [List.length_set] at hlt
  rw [List.getElem?_set_self hlt] at h
  exact (Option.some.inj h).symm
theorem mvLR.sto {E : mvE} {ls : Array Slot} {L : List Value} {n i : Nat} {v : Value} (hn : L.length = n) (h : lv_has ls n ((i, mvTv E v) :: (mvLv E L).filter (fun q => !(q.1 == i) && !(q.1 + 1 == i && q.2.category == 2)))) : mvLR E ls (mvSto L i v) n := by
  refine mvLR.of h ((mvSto_len L i v).trans hn) fun j u hu hd => ?_
  by_cases hj : j = i
  · subst hj
    rw [mvSto_self hu]
    exact List.mem_cons_self
  · obtain ⟨h1, h2⟩ := mvSto_at hj hu hd
    refine List.mem_cons_of_mem _ (List.mem_filter.mpr ⟨mvLv_mem.mpr ⟨j, u, h1, hd, rfl⟩, ?_⟩)
    simp only [mvTv_cat]
    simp only [Bool.and_eq_true, Bool.not_eq_true', beq_eq_false_iff_ne, ne_eq]
    refine ⟨hj, ?_⟩
    by_cases hji : j + 1 = i
    · simp only [hji, beq_self_eq_true, Bool.true_and, beq_eq_false_iff_ne]
      exact fun e => h2 ⟨hji, e⟩
    · simp [hji]
theorem mvLR.sto2 {E : mvE} {ls : Array Slot} {L : List Value} {n i : Nat} {v : Value} (hn : L.length = n) (h : lv_has ls n ((i, mvTv E v) :: (mvLv E L).filter (fun q => !(q.1 == i) && (!(q.1 == i + 1) && !(q.1 + 1 == i && q.2.category == 2))))) : mvLR E ls (mvSto2 L i v) n := by
  refine mvLR.of h ((mvSto2_len L i v).trans hn) fun j u hu hd => ?_
  have hj1 : j ≠ i + 1 := by
    intro e
    subst e
    unfold mvSto2 at hu
    have hlt := (List.getElem?_eq_some_iff.mp hu).1
    rw [List.length_set] at hlt
    rw [List.getElem?_set_self hlt] at hu
    cases hu
    cases hd
  have hu : (mvSto L i v)[j]? = some u := by
    unfold mvSto2 at hu
    rw [List.getElem?_set_ne (Ne.symm hj1)] at hu
    exact hu
  by_cases hj : j = i
  · subst hj
    rw [mvSto_self hu]
    exact List.mem_cons_self
  · obtain ⟨h1, h2⟩ := mvSto_at hj hu hd
    refine List.mem_cons_of_mem _ (List.mem_filter.mpr ⟨mvLv_mem.mpr ⟨j, u, h1, hd, rfl⟩, ?_⟩)
    simp only [mvTv_cat]
    simp only [Bool.and_eq_true, Bool.not_eq_true', beq_eq_false_iff_ne, ne_eq]
    refine ⟨hj, hj1, ?_⟩
    by_cases hji : j + 1 = i
    · simp only [hji, beq_self_eq_true, Bool.true_and, beq_eq_false_iff_ne]
      exact fun e => h2 ⟨hji, e⟩
    · simp [hji]
