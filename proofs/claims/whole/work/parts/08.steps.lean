/-! EACH INSTRUCTION OF THE ABSTRACT MACHINE IS ONE OF THE MACHINE -/
abbrev mvQ : Type := Nat × List Value × List Value × mvSt
theorem mvGo_inv {pc : Nat} {L st : List Value} {σ : mvSt} {q : mvQ} (h : mvGo pc L st σ = some (.inl q)) : q = (pc, L, st, σ) := by cases h; rfl
theorem mvGo_ret {pc : Nat} {L st : List Value} {σ : mvSt} {x : (Option Value × mvSt) ⊕ (Nat × List Value × List Value)} (h : mvGo pc L st σ = some (.inr x)) : False := by cases h
theorem mvJ_inv {pc : Nat} {off : Int} {L st : List Value} {σ : mvSt} {q : mvQ} (h : mvJ pc off L st σ = some (.inl q)) : ∃ t : Nat, (pc : Int) + off = (t : Int) ∧ q = (t, L, st, σ) := by
  unfold mvJ at h
  split at h
  · next h0 => exact ⟨((pc : Int) + off).toNat, by omega, mvGo_inv h⟩
  · cases h
theorem mvLoadI_inv {pc i : Nat} {L st : List Value} {σ : mvSt} {q : mvQ} (h : mvLoadI pc i L st σ = some (.inl q)) : ∃ x, L[i]? = some (.int x) ∧ q = (pc, L, .int x :: st, σ) := by
  unfold mvLoadI at h
  split at h
  · next x hx => exact ⟨x, hx, mvGo_inv h⟩
  · cases h
theorem mvLoadL_inv {pc i : Nat} {L st : List Value} {σ : mvSt} {q : mvQ} (h : mvLoadL pc i L st σ = some (.inl q)) : ∃ x, L[i]? = some (.long x) ∧ q = (pc, L, .long x :: st, σ) := by
  unfold mvLoadL at h
  split at h
  · next x hx => exact ⟨x, hx, mvGo_inv h⟩
  · cases h
theorem mvLoadA_inv {pc i : Nat} {L st : List Value} {σ : mvSt} {q : mvQ} (h : mvLoadA pc i L st σ = some (.inl q)) : ∃ v, (v = .null ∨ ∃ x, v = .ref x) ∧ L[i]? = some v ∧ q = (pc, L, v :: st, σ) := by
  unfold mvLoadA at h
  split at h
  · next x hx => exact ⟨_, Or.inr ⟨x, rfl⟩, hx, mvGo_inv h⟩
  · next hx => exact ⟨_, Or.inl rfl, hx, mvGo_inv h⟩
  · cases h
theorem mvCond_inv {b : Bool} {x : mvRs} {q : (Nat × List Value × List Value × mvSt) ⊕ ((Option Value × mvSt) ⊕ (Nat × List Value × List Value))} (h : (bif b then x else none) = some q) : b = true ∧ x = some q := by
  cases b
  · cases h
  · exact ⟨rfl, h⟩
theorem mvStI_inv {pc i : Nat} {L st : List Value} {σ : mvSt} {q : mvQ} (h : mvStI pc i L st σ = some (.inl q)) : ∃ x r, st = .int x :: r ∧ i < L.length ∧ q = (pc, mvSto L i (.int x), r, σ) := by
  unfold mvStI at h
  split at h
  · next x r =>
    obtain ⟨h1, h2⟩ := mvCond_inv h
    exact ⟨x, r, rfl, Nat.blt_eq.mp h1, mvGo_inv h2⟩
  · cases h
theorem mvStL_inv {pc i : Nat} {L st : List Value} {σ : mvSt} {q : mvQ} (h : mvStL pc i L st σ = some (.inl q)) : ∃ x r, st = .long x :: r ∧ i + 1 < L.length ∧ q = (pc, mvSto2 L i (.long x), r, σ) := by
  unfold mvStL at h
  split at h
  · next x r =>
    obtain ⟨h1, h2⟩ := mvCond_inv h
    exact ⟨x, r, rfl, Nat.blt_eq.mp h1, mvGo_inv h2⟩
  · cases h
theorem mvStA_inv {pc i : Nat} {L st : List Value} {σ : mvSt} {q : mvQ} (h : mvStA pc i L st σ = some (.inl q)) : ∃ v r, (v = .null ∨ ∃ x, v = .ref x) ∧ st = v :: r ∧ i < L.length ∧ q = (pc, mvSto L i v, r, σ) := by
  unfold mvStA at h
  split at h
  · next x r =>
    obtain ⟨h1, h2⟩ := mvCond_inv h
    exact ⟨_, r, Or.inr ⟨x, rfl⟩, rfl, Nat.blt_eq.mp h1, mvGo_inv h2⟩
  · next r =>
    obtain ⟨h1, h2⟩ := mvCond_inv h
    exact ⟨_, r, Or.inl rfl, rfl, Nat.blt_eq.mp h1, mvGo_inv h2⟩
  · cases h
theorem mvI2_inv {f : Int32 → Int32 → Int32} {pc : Nat} {L st : List Value} {σ : mvSt} {q : mvQ} (h : mvI2 f pc L st σ = some (.inl q)) : ∃ x y r, st = .int y :: .int x :: r ∧ q = (pc, L, .int (f x y) :: r, σ) := by
  unfold mvI2 at h
  split at h
  · next y x r => exact ⟨x, y, r, rfl, mvGo_inv h⟩
  · cases h
theorem mvI2z_inv {f : Int32 → Int32 → Int32} {pc : Nat} {L st : List Value} {σ : mvSt} {q : mvQ} (h : mvI2z f pc L st σ = some (.inl q)) : ∃ x y r, st = .int y :: .int x :: r ∧ ¬ y = 0 ∧ q = (pc, L, .int (f x y) :: r, σ) := by
  unfold mvI2z at h
  split at h
  · next y x r =>
    split at h
    · cases h
    · next hy => exact ⟨x, y, r, rfl, hy, mvGo_inv h⟩
  · cases h
theorem mvI1_inv {f : Int32 → Int32} {pc : Nat} {L st : List Value} {σ : mvSt} {q : mvQ} (h : mvI1 f pc L st σ = some (.inl q)) : ∃ x r, st = .int x :: r ∧ q = (pc, L, .int (f x) :: r, σ) := by
  unfold mvI1 at h
  split at h
  · next x r => exact ⟨x, r, rfl, mvGo_inv h⟩
  · cases h
theorem mvL2_inv {f : Int64 → Int64 → Int64} {pc : Nat} {L st : List Value} {σ : mvSt} {q : mvQ} (h : mvL2 f pc L st σ = some (.inl q)) : ∃ x y r, st = .long y :: .long x :: r ∧ q = (pc, L, .long (f x y) :: r, σ) := by
  unfold mvL2 at h
  split at h
  · next y x r => exact ⟨x, y, r, rfl, mvGo_inv h⟩
  · cases h
theorem mvL2z_inv {f : Int64 → Int64 → Int64} {pc : Nat} {L st : List Value} {σ : mvSt} {q : mvQ} (h : mvL2z f pc L st σ = some (.inl q)) : ∃ x y r, st = .long y :: .long x :: r ∧ ¬ y = 0 ∧ q = (pc, L, .long (f x y) :: r, σ) := by
  unfold mvL2z at h
  split at h
  · next y x r =>
    split at h
    · cases h
    · next hy => exact ⟨x, y, r, rfl, hy, mvGo_inv h⟩
  · cases h
theorem mvLsh_inv {f : Int64 → Int64 → Int64} {pc : Nat} {L st : List Value} {σ : mvSt} {q : mvQ} (h : mvLsh f pc L st σ = some (.inl q)) : ∃ x y r, st = .int y :: .long x :: r ∧ q = (pc, L, .long (f x (y.toInt64 &&& 63)) :: r, σ) := by
  unfold mvLsh at h
  split at h
  · next y x r => exact ⟨x, y, r, rfl, mvGo_inv h⟩
  · cases h
section MV
variable {p : Program} {l : Launch} {e : Env} {R : Room} {s : State} {m : MethodId} {args : Array Value} {below : List Frame} {meth : Method} {c : Code} {Q : State → Prop} {E : mvE} {k : Nat}
/-- from this place of the abstract machine the machine comes to Q -/
def mvG (E : mvE) (k : Nat) (p : Program) (l : Launch) (e : Env) (R : Room) (s : State) (m : MethodId) (args : Array Value) (below : List Frame) (meth : Method) (c : Code) (Q : State → Prop) (cells slots pc : Nat) (L st : List Value) (σ : mvSt) : Prop :=
  ∀ (H : Heap) (locs : List Loc) (ls : Array Slot), mvWorld E σ H → mvLR E ls L (mvT k).2.2.1 → (∀ q ∈ locs, (mvH E).size ≤ q.base) → W p l e R s m args below meth c H locs cells slots Q (F0 m pc ls (st.map (mvTv E)))
variable {cells slots pc : Nat} {L st : List Value} {σ : mvSt}
theorem mo_loadI (X : mvCx E k p s m args meth c) {i n : Nat} {x : Int32} (hx : L[i]? = some (.int x)) (hd : decode (mvT k).2.1 pc = .ok (.iload i, 2) ∧ n = 2 ∨ ∃ j : Fin 4, j.val = i ∧ n = 1 ∧ decode (mvT k).2.1 pc = .ok (.iload_n j, 1))
    (G : mvG E k p l e R s m args below meth c Q cells slots (pc + n) L (.int x :: st) σ) : mvG E k p l e R s m args below meth c Q cells slots pc L st σ := by
  intro H locs ls hW hL hl
  have h1 := hL.2.2.2 i _ hx rfl
  rcases hd with ⟨hd, rfl⟩ | ⟨j, hj, rfl, hd⟩
  · exact lv_iload X.1 X.2.1 hd h1 (G H locs ls hW hL hl)
  · exact lv_iload_n X.1 X.2.1 hd hj h1 (G H locs ls hW hL hl)
theorem mo_loadL (X : mvCx E k p s m args meth c) {i n : Nat} {x : Int64} (hx : L[i]? = some (.long x)) (hd : decode (mvT k).2.1 pc = .ok (.lload i, 2) ∧ n = 2 ∨ ∃ j : Fin 4, j.val = i ∧ n = 1 ∧ decode (mvT k).2.1 pc = .ok (.lload_n j, 1))
    (G : mvG E k p l e R s m args below meth c Q cells slots (pc + n) L (.long x :: st) σ) : mvG E k p l e R s m args below meth c Q cells slots pc L st σ := by
  intro H locs ls hW hL hl
  have h1 := hL.2.2.2 i _ hx rfl
  rcases hd with ⟨hd, rfl⟩ | ⟨j, hj, rfl, hd⟩
  · exact lv_lload X.1 X.2.1 hd h1 (G H locs ls hW hL hl)
  · exact lv_lload_n X.1 X.2.1 hd hj h1 (G H locs ls hW hL hl)
theorem mo_rf {v : Value} (hv : v = .null ∨ ∃ x, v = .ref x) : mvTv E v = .null ∨ ∃ a, mvTv E v = .ref a := by
  rcases hv with rfl | ⟨x, rfl⟩
  · exact Or.inl rfl
  · show va_rf (mvLo E x) = .null ∨ ∃ a, va_rf (mvLo E x) = .ref a
    cases mvLo E x with
    | none => exact Or.inl rfl
    | some a => exact Or.inr ⟨a, rfl⟩
theorem mo_rfd {v : Value} (hv : v = .null ∨ ∃ x, v = .ref x) : mvDef v = true := by
  rcases hv with rfl | ⟨x, rfl⟩ <;> rfl
theorem mo_loadA (X : mvCx E k p s m args meth c) {i n : Nat} {v : Value} (hv : v = .null ∨ ∃ x, v = .ref x) (hx : L[i]? = some v) (hd : decode (mvT k).2.1 pc = .ok (.aload i, 2) ∧ n = 2 ∨ ∃ j : Fin 4, j.val = i ∧ n = 1 ∧ decode (mvT k).2.1 pc = .ok (.aload_n j, 1))
    (G : mvG E k p l e R s m args below meth c Q cells slots (pc + n) L (v :: st) σ) : mvG E k p l e R s m args below meth c Q cells slots pc L st σ := by
  intro H locs ls hW hL hl
  have h1 := hL.2.2.2 i _ hx (mo_rfd hv)
  have h2 := G H locs ls hW hL hl
  rw [List.map_cons] at h2
  rcases mo_rf (E := E) hv with h | ⟨a, h⟩
  · rw [h] at h1 h2
    rcases hd with ⟨hd, rfl⟩ | ⟨j, hj, rfl, hd⟩
    · exact lv_aloadN X.1 X.2.1 hd h1 h2
    · exact lv_aload_nN X.1 X.2.1 hd hj h1 h2
  · rw [h] at h1 h2
    rcases hd with ⟨hd, rfl⟩ | ⟨j, hj, rfl, hd⟩
    · exact lv_aload X.1 X.2.1 hd h1 h2
    · exact lv_aload_n X.1 X.2.1 hd hj h1 h2
theorem mo_stI (X : mvCx E k p s m args meth c) {i n : Nat} {x : Int32} (hi : i < L.length) (hd : decode (mvT k).2.1 pc = .ok (.istore i, 2) ∧ n = 2 ∨ ∃ j : Fin 4, j.val = i ∧ n = 1 ∧ decode (mvT k).2.1 pc = .ok (.istore_n j, 1))
    (G : mvG E k p l e R s m args below meth c Q cells slots (pc + n) (mvSto L i (.int x)) st σ) : mvG E k p l e R s m args below meth c Q cells slots pc L (.int x :: st) σ := by
  intro H locs ls hW hL hl
  have hn := hL.1
  rcases hd with ⟨hd, rfl⟩ | ⟨j, hj, rfl, hd⟩
  · exact lv_istore X.1 X.2.1 hd hL.has (by omega) rfl fun ls' h' => G H locs ls' hW (mvLR.sto hn h') hl
  · exact lv_istore_n X.1 X.2.1 hd hj hL.has (by omega) rfl fun ls' h' => G H locs ls' hW (mvLR.sto hn h') hl
theorem mo_stL (X : mvCx E k p s m args meth c) {i n : Nat} {x : Int64} (hi : i + 1 < L.length) (hd : decode (mvT k).2.1 pc = .ok (.lstore i, 2) ∧ n = 2 ∨ ∃ j : Fin 4, j.val = i ∧ n = 1 ∧ decode (mvT k).2.1 pc = .ok (.lstore_n j, 1))
    (G : mvG E k p l e R s m args below meth c Q cells slots (pc + n) (mvSto2 L i (.long x)) st σ) : mvG E k p l e R s m args below meth c Q cells slots pc L (.long x :: st) σ := by
  intro H locs ls hW hL hl
  have hn := hL.1
  rcases hd with ⟨hd, rfl⟩ | ⟨j, hj, rfl, hd⟩
  · exact lv_lstore X.1 X.2.1 hd hL.has (by omega) rfl fun ls' h' => G H locs ls' hW (mvLR.sto2 hn h') hl
  · exact lv_lstore_n X.1 X.2.1 hd hj hL.has (by omega) rfl fun ls' h' => G H locs ls' hW (mvLR.sto2 hn h') hl
theorem mo_stA (X : mvCx E k p s m args meth c) {i n : Nat} {v : Value} (hv : v = .null ∨ ∃ x, v = .ref x) (hi : i < L.length) (hd : decode (mvT k).2.1 pc = .ok (.astore i, 2) ∧ n = 2 ∨ ∃ j : Fin 4, j.val = i ∧ n = 1 ∧ decode (mvT k).2.1 pc = .ok (.astore_n j, 1))
    (G : mvG E k p l e R s m args below meth c Q cells slots (pc + n) (mvSto L i v) st σ) : mvG E k p l e R s m args below meth c Q cells slots pc L (v :: st) σ := by
  intro H locs ls hW hL hl
  have hn := hL.1
  have key : ∀ ls' : Array Slot, lv_has ls' (mvT k).2.2.1 ((i, mvTv E v) :: (mvLv E L).filter (fun q => !(q.1 == i) && !(q.1 + 1 == i && q.2.category == 2))) → W p l e R s m args below meth c H locs cells slots Q (F0 m (pc + n) ls' (st.map (mvTv E))) := fun ls' h' => G H locs ls' hW (mvLR.sto hn h') hl
  rw [List.map_cons]
  rcases mo_rf (E := E) hv with h | ⟨a, h⟩
  · rw [h] at key ⊢
    rcases hd with ⟨hd, rfl⟩ | ⟨j, hj, rfl, hd⟩
    · exact lv_astoreN X.1 X.2.1 hd hL.has (by omega) rfl key
    · exact lv_astore_nN X.1 X.2.1 hd hj hL.has (by omega) rfl key
  · rw [h] at key ⊢
    rcases hd with ⟨hd, rfl⟩ | ⟨j, hj, rfl, hd⟩
    · exact lv_astore X.1 X.2.1 hd hL.has (by omega) rfl key
    · exact lv_astore_n X.1 X.2.1 hd hj hL.has (by omega) rfl key
theorem mo_iinc (X : mvCx E k p s m args meth c) {i : Nat} {n : Int} {x : Int32} (hx : L[i]? = some (.int x)) (hd : decode (mvT k).2.1 pc = .ok (.iinc i n, 3))
    (G : mvG E k p l e R s m args below meth c Q cells slots (pc + 3) (mvSto L i (.int (x + Int32.ofInt n))) st σ) : mvG E k p l e R s m args below meth c Q cells slots pc L st σ := by
  intro H locs ls hW hL hl
  have hn := hL.1
  have hi : i < L.length := (List.getElem?_eq_some_iff.mp hx).1
  obtain ⟨j, hj⟩ := List.getElem?_of_mem (mvLv_mem.mpr ⟨i, _, hx, rfl, rfl⟩ : (i, mvTv E (.int x)) ∈ mvLv E L)
  exact lv_iinc (k := j) X.1 X.2.1 hd hL.has hj rfl (by omega) rfl fun ls' h' => G H locs ls' hW (mvLR.sto hn h') hl
theorem mo_c1 (X : mvCx E k p s m args meth c) {q : ClassFile.Cond} {off : Int} {x : Int32} (hd : decode (mvT k).2.1 pc = .ok (.ifCond q off, 3)) (h0 : 0 ≤ (pc : Int) + off)
    (Gt : mvD1 q x = true → mvG E k p l e R s m args below meth c Q cells slots ((pc : Int) + off).toNat L st σ) (Gf : mvD1 q x = false → mvG E k p l e R s m args below meth c Q cells slots (pc + 3) L st σ) : mvG E k p l e R s m args below meth c Q cells slots pc L (.int x :: st) σ := by
  intro H locs ls hW hL hl
  show W p l e R s m args below meth c H locs cells slots Q (F0 m pc ls (.int x :: st.map (mvTv E)))
  have ht : (pc : Int) + off = ((((pc : Int) + off).toNat : Nat) : Int) := by omega
  cases hq : mvD1 q x with
  | true =>
    have w := Gt hq H locs ls hW hL hl
    cases q with
    | eq => exact lv_if_eq X.1 X.2.1 hd ht (fun _ => w) (fun h => absurd (of_decide_eq_true hq) h)
    | ne => exact lv_if_ne X.1 X.2.1 hd ht (fun _ => w) (fun h => absurd h (of_decide_eq_true hq))
    | lt => exact lv_if_lt X.1 X.2.1 hd ht (fun _ => w) (fun h => absurd (of_decide_eq_true hq) h)
    | ge => exact lv_if_ge X.1 X.2.1 hd ht (fun _ => w) (fun h => absurd (of_decide_eq_true hq) h)
    | gt => exact lv_if_gt X.1 X.2.1 hd ht (fun _ => w) (fun h => absurd (of_decide_eq_true hq) h)
    | le => exact lv_if_le X.1 X.2.1 hd ht (fun _ => w) (fun h => absurd (of_decide_eq_true hq) h)
  | false =>
    have w := Gf hq H locs ls hW hL hl
    cases q with
    | eq => exact lv_if_eq X.1 X.2.1 hd ht (fun h => absurd h (of_decide_eq_false hq)) (fun _ => w)
    | ne => exact lv_if_ne X.1 X.2.1 hd ht (fun h => absurd h (of_decide_eq_false hq)) (fun _ => w)
    | lt => exact lv_if_lt X.1 X.2.1 hd ht (fun h => absurd h (of_decide_eq_false hq)) (fun _ => w)
    | ge => exact lv_if_ge X.1 X.2.1 hd ht (fun h => absurd h (of_decide_eq_false hq)) (fun _ => w)
    | gt => exact lv_if_gt X.1 X.2.1 hd ht (fun h => absurd h (of_decide_eq_false hq)) (fun _ => w)
    | le => exact lv_if_le X.1 X.2.1 hd ht (fun h => absurd h (of_decide_eq_false hq)) (fun _ => w)
theorem mo_c2 (X : mvCx E k p s m args meth c) {q : ClassFile.Cond} {off : Int} {x y : Int32} (hd : decode (mvT k).2.1 pc = .ok (.if_icmp q off, 3)) (h0 : 0 ≤ (pc : Int) + off)
    (Gt : mvD2 q x y = true → mvG E k p l e R s m args below meth c Q cells slots ((pc : Int) + off).toNat L st σ) (Gf : mvD2 q x y = false → mvG E k p l e R s m args below meth c Q cells slots (pc + 3) L st σ) : mvG E k p l e R s m args below meth c Q cells slots pc L (.int y :: .int x :: st) σ := by
  intro H locs ls hW hL hl
  show W p l e R s m args below meth c H locs cells slots Q (F0 m pc ls (.int y :: .int x :: st.map (mvTv E)))
  have ht : (pc : Int) + off = ((((pc : Int) + off).toNat : Nat) : Int) := by omega
  cases hq : mvD2 q x y with
  | true =>
    have w := Gt hq H locs ls hW hL hl
    cases q with
    | eq => exact lv_icmp_eq X.1 X.2.1 hd ht (fun _ => w) (fun h => absurd (of_decide_eq_true hq) h)
    | ne => exact lv_icmp_ne X.1 X.2.1 hd ht (fun _ => w) (fun h => absurd h (of_decide_eq_true hq))
    | lt => exact lv_icmp_lt X.1 X.2.1 hd ht (fun _ => w) (fun h => absurd (of_decide_eq_true hq) h)
    | ge => exact lv_icmp_ge X.1 X.2.1 hd ht (fun _ => w) (fun h => absurd (of_decide_eq_true hq) h)
    | gt => exact lv_icmp_gt X.1 X.2.1 hd ht (fun _ => w) (fun h => absurd (of_decide_eq_true hq) h)
    | le => exact lv_icmp_le X.1 X.2.1 hd ht (fun _ => w) (fun h => absurd (of_decide_eq_true hq) h)
  | false =>
    have w := Gf hq H locs ls hW hL hl
    cases q with
    | eq => exact lv_icmp_eq X.1 X.2.1 hd ht (fun h => absurd h (of_decide_eq_false hq)) (fun _ => w)
    | ne => exact lv_icmp_ne X.1 X.2.1 hd ht (fun h => absurd h (of_decide_eq_false hq)) (fun _ => w)
    | lt => exact lv_icmp_lt X.1 X.2.1 hd ht (fun h => absurd h (of_decide_eq_false hq)) (fun _ => w)
    | ge => exact lv_icmp_ge X.1 X.2.1 hd ht (fun h => absurd h (of_decide_eq_false hq)) (fun _ => w)
    | gt => exact lv_icmp_gt X.1 X.2.1 hd ht (fun h => absurd h (of_decide_eq_false hq)) (fun _ => w)
    | le => exact lv_icmp_le X.1 X.2.1 hd ht (fun h => absurd h (of_decide_eq_false hq)) (fun _ => w)
theorem mo_goto (X : mvCx E k p s m args meth c) {off : Int} {t : Nat} (hd : decode (mvT k).2.1 pc = .ok (.goto off, 3)) (ht : (pc : Int) + off = (t : Int)) (G : mvG E k p l e R s m args below meth c Q cells slots t L st σ) : mvG E k p l e R s m args below meth c Q cells slots pc L st σ :=
  fun H locs ls hW hL hl => lv_goto X.1 X.2.1 hd ht (G H locs ls hW hL hl)
/-- where ids lie -/
theorem mo_own {H : Heap} (hW : mvWorld E σ H) (hK : mvKF E s) {o : Nat} (h : (σ.1.2.2 o).1 < 13 ∨ (σ.1.2.2 o).1 = 20 ∨ (σ.1.2.2 o).1 = 21 ∨ (σ.1.2.2 o).1 = 22 ∨ (σ.1.2.2 o).1 = 23) : 7 ≤ o ∧ o < σ.1.1 := by
  obtain ⟨h1, h2, h3, h4, h5, h6⟩ := hW
  refine ⟨Nat.not_lt.mp fun hl => ?_, Nat.not_le.mp fun hl => ?_⟩
  · have e := (h6 o hl).1
    have t := hK.2.2.2.2.2.1 o hl
    rw [← e] at t
    omega
  · have := h4 o hl
    omega
theorem mo_ext {H : Heap} (hW : mvWorld E σ H) {o : Nat} (h : (σ.1.2.2 o).1 = 13 ∨ (σ.1.2.2 o).1 = 24 ∨ (σ.1.2.2 o).1 = 25) : o < 7 := by
  obtain ⟨h1, h2, h3, h4, h5, h6⟩ := hW
  refine Nat.not_le.mp fun hl => ?_
  by_cases hn : o < σ.1.1
  · have := h5 o hl hn
    unfold mvCell at this
    omega
  · have := h4 o (by omega)
    omega
theorem mo_lo (hK : mvKF E s) {x : Nat} (h : x ≠ 6) : ∃ a, mvLo E x = some a := by
  by_cases hx : x < 7
  · obtain ⟨a, ha⟩ := hK.2.2.2.2.2.2.2.2.2.2.2.2.2.2 x hx h
    exact ⟨a, by unfold mvLo; rw [if_pos hx]; exact ha⟩
  · exact ⟨_, mvLo_own (by omega)⟩
theorem mo_tv (hK : mvKF E s) {x : Nat} (h : x ≠ 6) : ∃ a, mvTv E (.ref x) = .ref a := by
  obtain ⟨a, ha⟩ := mo_lo hK h
  exact ⟨a, by show va_rf (mvLo E x) = _; rw [ha]; rfl⟩
theorem mo_ifnullN (X : mvCx E k p s m args meth c) {off : Int} {t : Nat} (hd : decode (mvT k).2.1 pc = .ok (.ifnull off, 3)) (ht : (pc : Int) + off = (t : Int)) (G : mvG E k p l e R s m args below meth c Q cells slots t L st σ) : mvG E k p l e R s m args below meth c Q cells slots pc L (.null :: st) σ :=
  fun H locs ls hW hL hl => lv_ifnullN X.1 X.2.1 hd ht (G H locs ls hW hL hl)
theorem mo_ifnull (X : mvCx E k p s m args meth c) {off : Int} {x : Nat} (hx : x ≠ 6) (hd : decode (mvT k).2.1 pc = .ok (.ifnull off, 3)) (G : mvG E k p l e R s m args below meth c Q cells slots (pc + 3) L st σ) : mvG E k p l e R s m args below meth c Q cells slots pc L (.ref x :: st) σ := by
  intro H locs ls hW hL hl
  obtain ⟨a, ha⟩ := mo_tv X.2.2.2.2.2.2 hx
  rw [List.map_cons, ha]
  exact lv_ifnull X.1 X.2.1 hd (G H locs ls hW hL hl)
theorem mo_ifnonnullN (X : mvCx E k p s m args meth c) {off : Int} (hd : decode (mvT k).2.1 pc = .ok (.ifnonnull off, 3)) (G : mvG E k p l e R s m args below meth c Q cells slots (pc + 3) L st σ) : mvG E k p l e R s m args below meth c Q cells slots pc L (.null :: st) σ :=
  fun H locs ls hW hL hl => lv_ifnonnullN X.1 X.2.1 hd (G H locs ls hW hL hl)
theorem mo_ifnonnull (X : mvCx E k p s m args meth c) {off : Int} {t x : Nat} (hx : x ≠ 6) (hd : decode (mvT k).2.1 pc = .ok (.ifnonnull off, 3)) (ht : (pc : Int) + off = (t : Int)) (G : mvG E k p l e R s m args below meth c Q cells slots t L st σ) : mvG E k p l e R s m args below meth c Q cells slots pc L (.ref x :: st) σ := by
  intro H locs ls hW hL hl
  obtain ⟨a, ha⟩ := mo_tv X.2.2.2.2.2.2 hx
  rw [List.map_cons, ha]
  exact lv_ifnonnull X.1 X.2.1 hd ht (G H locs ls hW hL hl)
/-- two references, of ours or null -/
theorem mo_acmp (X : mvCx E k p s m args meth c) {off : Int} {rx ry : Option Nat} (hx : ∀ a, rx = some a → 7 ≤ a) (hy : ∀ a, ry = some a → 7 ≤ a) (hd : decode (mvT k).2.1 pc = .ok (.if_acmp .ne off, 3)) (h0 : 0 ≤ (pc : Int) + off)
    (Gt : ¬ rx = ry → mvG E k p l e R s m args below meth c Q cells slots ((pc : Int) + off).toNat L st σ) (Gf : rx = ry → mvG E k p l e R s m args below meth c Q cells slots (pc + 3) L st σ) : mvG E k p l e R s m args below meth c Q cells slots pc L (mvRv ry :: mvRv rx :: st) σ := by
  intro H locs ls hW hL hl
  have ht : (pc : Int) + off = ((((pc : Int) + off).toNat : Nat) : Int) := by omega
  have tv : ∀ r : Option Nat, (∀ a, r = some a → 7 ≤ a) → mvTv E (mvRv r) = va_rf (r.map (mvAd E)) := by
    intro r hr
    cases r with
    | none => rfl
    | some a => exact mvTv_own (hr a rfl)
  rw [List.map_cons, List.map_cons, tv rx hx, tv ry hy]
  refine lv_acmp_ne X.1 X.2.1 hd ht (fun h => Gt (fun e => h (by rw [e])) H locs ls hW hL hl) (fun h => Gf ?_ H locs ls hW hL hl)
  cases rx with
  | none =>
    cases ry with
    | none => rfl
    | some b => cases h
  | some a =>
    cases ry with
    | none => cases h
    | some b =>
      have h1 := Option.some.inj h
      have h2 := hx a rfl
      have h3 := hy b rfl
      unfold mvAd at h1
      rw [show a = b by omega]
theorem mo_tableOut (X : mvCx E k p s m args meth c) {d lo hi : Int} {offs : Array Int} {len t : Nat} {x : Int32} (hd : decode (mvT k).2.1 pc = .ok (.tableswitch d lo hi offs, len)) (h : x.toInt < lo ∨ hi < x.toInt) (ht : (pc : Int) + d = (t : Int)) (G : mvG E k p l e R s m args below meth c Q cells slots t L st σ) : mvG E k p l e R s m args below meth c Q cells slots pc L (.int x :: st) σ :=
  fun H locs ls hW hL hl => lv_tableOut X.1 X.2.1 hd h ht (G H locs ls hW hL hl)
theorem mo_tableIn (X : mvCx E k p s m args meth c) {d lo hi off : Int} {offs : Array Int} {len t : Nat} {x : Int32} (hd : decode (mvT k).2.1 pc = .ok (.tableswitch d lo hi offs, len)) (h : ¬ (x.toInt < lo ∨ hi < x.toInt)) (ho : offs[(x.toInt - lo).toNat]? = some off) (ht : (pc : Int) + off = (t : Int)) (G : mvG E k p l e R s m args below meth c Q cells slots t L st σ) : mvG E k p l e R s m args below meth c Q cells slots pc L (.int x :: st) σ :=
  fun H locs ls hW hL hl => lv_tableIn X.1 X.2.1 hd (fun z => h (Or.inl z)) (fun z => h (Or.inr z)) ho ht (G H locs ls hW hL hl)
theorem mo_lookup (X : mvCx E k p s m args meth c) {d : Int} {ps : Array (Int × Int)} {len t : Nat} {x : Int32} (hd : decode (mvT k).2.1 pc = .ok (.lookupswitch d ps, len)) (hp : (ps.toList.zip (ps.toList.drop 1)).all (fun q => decide (q.1.1 < q.2.1)) = true) (ht : (pc : Int) + Op.lookupswitch.offset ps.toList d x.toInt = (t : Int)) (G : mvG E k p l e R s m args below meth c Q cells slots t L st σ) : mvG E k p l e R s m args below meth c Q cells slots pc L (.int x :: st) σ :=
  fun H locs ls hW hL hl => lv_lookup X.1 X.2.1 hd hp rfl ht (G H locs ls hW hL hl)
end MV
