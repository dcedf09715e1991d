/-! SEGMENTS of the class's code, put together -/
def fC (f : E1 → Int) : Prop := ∀ E, eOK E → f E = 0 ∨ f E = 1
theorem fC_B {f : E1 → Int} (h : fC f) : fB f := fun E hE => by rcases h E hE with q | q <;> rw [q] <;> decide
theorem Run1_up {law : Nat} {cd : Nat → Int32} {E : E1} {e e' : Nat} (he : e ≤ e') (n : Nat) : ∀ a b, Run1 law cd E e n a b → Run1 law cd E e' n a b := by
  induction n with
  | zero => exact fun a b h => h
  | succ n ih =>
    intro a b h
    obtain ⟨h1, c, h2, h3⟩ := h
    exact ⟨by omega, c, h2, ih c b h3⟩
theorem Run1_tr {law : Nat} {cd : Nat → Int32} {E : E1} {e : Nat} {m : Nat} {b c : V1} (H : Run1 law cd E e m b c) (n : Nat) : ∀ a, Run1 law cd E e n a b → ∃ q, Run1 law cd E e q a c := by
  induction n with
  | zero =>
    intro a h
    have e : a = b := h
    subst e
    exact ⟨m, H⟩
  | succ n ih =>
    intro a h
    obtain ⟨h1, d, h2, h3⟩ := h
    obtain ⟨q, hq⟩ := ih d h3
    exact ⟨q + 1, h1, d, h2, hq⟩
theorem Run1_1 {law : Nat} {cd : Nat → Int32} {E : E1} {e : Nat} {a b : V1} (h1 : a.1 < e) (h : S1n law cd E a.1 a.2.1 a.2.2 b ∨ S1l law cd E a.1 a.2.1 a.2.2 b) : Run1 law cd E e 1 a b := ⟨h1, b, h, rfl⟩
theorem S1_fw {law : Nat} {cd : Nat → Int32} {E : E1} {i : Nat} {v : Int} {stk : List Int} {b : V1} (h : S1n law cd E i v stk b ∨ S1l law cd E i v stk b) : i < b.1 := by
  rcases h with ⟨sg, nu, _, _, _, _, C⟩ | ⟨nu, _, _, _, _, rfl⟩
  · rcases C with ⟨_, c, rfl⟩ | ⟨_, c, y, q, _, rfl⟩ | ⟨_, rfl⟩ | ⟨_, _, rfl⟩ | ⟨_, _, rfl⟩ | ⟨_, rfl⟩ | ⟨y, q, _, _, rfl⟩
    · exact c
    · show i < if v = 0 then nu else i + 1
      split <;> omega
    · exact Nat.lt_succ_self _
    · exact Nat.lt_succ_self _
    · exact Nat.lt_succ_self _
    · exact Nat.lt_succ_self _
    · exact Nat.lt_succ_self _
  · exact Nat.lt_succ_self _
theorem Run1_cg {law : Nat} {cd cd' : Nat → Int32} {E : E1} {s e : Nat} (hc : ∀ q, s ≤ q → q < e → cd' q = cd q) (n : Nat) : ∀ a b, s ≤ a.1 → Run1 law cd E e n a b → Run1 law cd' E e n a b := by
  induction n with
  | zero => exact fun a b _ h => h
  | succ n ih =>
    intro a b hs h
    obtain ⟨h1, c, h2, h3⟩ := h
    have fw := S1_fw h2
    refine ⟨h1, c, ?_, ih c b (by omega) h3⟩
    unfold S1n S1l at h2 ⊢
    rw [hc a.1 hs h1]
    exact h2
theorem Sg1_cg {law : Nat} {f : E1 → Int} {cd cd' : Nat → Int32} {s e D : Nat} (H : Sg1 law f cd s e D) (hc : ∀ q, s ≤ q → q < e → cd' q = cd q) : Sg1 law f cd' s e D := fun E hE v stk hv hl => by
  obtain ⟨n, R⟩ := H E hE v stk hv hl
  exact ⟨n, Run1_cg hc n _ _ (Nat.le_refl _) R⟩
theorem Sg1_mono {law : Nat} {f : E1 → Int} {cd : Nat → Int32} {s e D D' : Nat} (H : Sg1 law f cd s e D) (h : D ≤ D') : Sg1 law f cd s e D' := fun E hE v stk hv hl => H E hE v stk hv (by omega)
section SG
variable {law : Nat} {cd : Nat → Int32} {s m p e D D1 D2 : Nat} {f g q : E1 → Int}
theorem Sg1_num {v : Nat} (h : cd s = nI (v * 64 + 45)) (hv : v ≤ 9999) : Sg1 law (fun _ => (v : Int)) cd s (s + 1) 0 := fun E hE w stk hw hl => ⟨1, Run1_1 (Nat.lt_succ_self _) (Or.inl ⟨45, v, by decide, by omega, h, by show stk.length < 62; omega, by simp⟩)⟩
theorem Sg1_name {j : Nat} (h : cd s = nI (0 * 64 + j)) (hj : nmOk law j = true) : Sg1 law (fun E => E.1 j) cd s (s + 1) 0 := fun E hE w stk hw hl => ⟨1, Run1_1 (Nat.lt_succ_self _) (Or.inl ⟨j, 0, by have := nmOk_lt hj; omega, by decide, h, by show stk.length < 62; omega, Or.inr (Or.inr (Or.inr (Or.inr (Or.inl ⟨nmOk_lt hj, hj, rfl⟩))))⟩)⟩
theorem Sg1_bin {sg : Nat} (F : Sg1 law f cd s m D1) (G : Sg1 law g cd m e D2) (bf : fB f) (bg : fB g) (ok : ∀ E, eOK E → jnOk sg (f E) (g E)) (hg : sg < 64) (h : cd e = nI (0 * 64 + sg)) (h2 : m ≤ e) (d1 : D1 ≤ D) (d2 : D2 + 1 ≤ D) (d3 : 2 ≤ D) : Sg1 law (bn sg f g) cd s (e + 1) D := fun E hE v stk hv hl => by
  obtain ⟨n1, R1⟩ := F E hE v stk hv (by omega)
  obtain ⟨n2, R2⟩ := G E hE (f E) (v :: stk) (bf E hE) (by show stk.length + 1 + D2 ≤ 61; omega)
  have R3 : Run1 law cd E (e + 1) 1 (e, g E, f E :: v :: stk) (e + 1, bn sg f g E, v :: stk) := Run1_1 (Nat.lt_succ_self _) (Or.inl ⟨sg, 0, hg, by decide, h, by show stk.length + 1 + 1 < 62; omega, Or.inr (Or.inr (Or.inr (Or.inr (Or.inr (Or.inr ⟨f E, v :: stk, rfl, ok E hE, rfl⟩)))))⟩)
  obtain ⟨n4, R4⟩ := Run1_tr R3 n2 _ (Run1_up (Nat.le_succ _) _ _ _ R2)
  exact Run1_tr R4 n1 _ (Run1_up (by omega) _ _ _ R1)
theorem Sg1_turn (F : Sg1 law f cd s e D) (h : cd e = nI (0 * 64 + 48)) (d : 1 ≤ D) : Sg1 law (fun E => -(f E)) cd s (e + 1) D := fun E hE v stk hv hl => by
  obtain ⟨n1, R1⟩ := F E hE v stk hv (by omega)
  have R3 : Run1 law cd E (e + 1) 1 (e, f E, v :: stk) (e + 1, -(f E), v :: stk) := Run1_1 (Nat.lt_succ_self _) (Or.inl ⟨48, 0, by decide, by decide, h, by show stk.length + 1 < 62; omega, by simp⟩)
  exact Run1_tr R3 n1 _ (Run1_up (Nat.le_succ _) _ _ _ R1)
theorem Sg1_not (F : Sg1 law f cd s e D) (hf : fC f) (h : cd e = nI (0 * 64 + 30)) (d : 1 ≤ D) : Sg1 law (fun E => 1 - f E) cd s (e + 1) D := fun E hE v stk hv hl => by
  obtain ⟨n1, R1⟩ := F E hE v stk hv (by omega)
  have R3 : Run1 law cd E (e + 1) 1 (e, f E, v :: stk) (e + 1, 1 - f E, v :: stk) := Run1_1 (Nat.lt_succ_self _) (Or.inl ⟨30, 0, by decide, by decide, h, by show stk.length + 1 < 62; omega, Or.inr (Or.inr (Or.inr (Or.inl ⟨rfl, hf E hE, rfl⟩)))⟩)
  exact Run1_tr R3 n1 _ (Run1_up (Nat.le_succ _) _ _ _ R1)
theorem Sg1_light (F : Sg1 law f cd s e D) (hl0 : law ≠ 0) (h : cd e = nI (0 * 64 + 23)) (d : 1 ≤ D) : Sg1 law (fun E => E.2 (f E)) cd s (e + 1) D := fun E hE v stk hv hl => by
  obtain ⟨n1, R1⟩ := F E hE v stk hv (by omega)
  have R3 : Run1 law cd E (e + 1) 1 (e, f E, v :: stk) (e + 1, E.2 (f E), v :: stk) := Run1_1 (Nat.lt_succ_self _) (Or.inr ⟨0, by decide, h, by show stk.length + 1 < 62; omega, hl0, rfl⟩)
  exact Run1_tr R3 n1 _ (Run1_up (Nat.le_succ _) _ _ _ R1)
theorem Sg1_if (Q : Sg1 law q cd s m D) (F : Sg1 law f cd (m + 1) p D) (G : Sg1 law g cd (p + 1) e D) (h1 : cd m = nI ((p + 1) * 64 + 24)) (h2 : cd p = nI (e * 64 + 26)) (l1 : m + 1 ≤ p) (l2 : p + 1 ≤ e) (l3 : e ≤ 300) (d : 1 ≤ D) : Sg1 law (fun E => if q E = 0 then g E else f E) cd s e D := fun E hE v stk hv hl => by
  obtain ⟨n1, R1⟩ := Q E hE v stk hv (by omega)
  obtain ⟨n2, R2⟩ := F E hE v stk hv (by omega)
  obtain ⟨n3, R3⟩ := G E hE v stk hv (by omega)
  have S : Run1 law cd E e 1 (m, q E, v :: stk) ((if q E = 0 then p + 1 else m + 1), v, stk) := Run1_1 (by show m < e; omega) (Or.inl ⟨24, p + 1, by decide, by omega, h1, by show stk.length + 1 < 62; omega, Or.inr (Or.inl ⟨rfl, by show m < p + 1; omega, v, stk, rfl, rfl⟩)⟩)
  have T : Run1 law cd E e 1 (p, f E, v :: stk) (e, f E, v :: stk) := Run1_1 (by show p < e; omega) (Or.inl ⟨26, e, by decide, by omega, h2, by show stk.length + 1 < 62; omega, Or.inl ⟨rfl, by show p < e; omega, rfl⟩⟩)
  by_cases c : q E = 0
  · rw [if_pos c] at S
    show ∃ n, Run1 law cd E e n (s, v, stk) (e, (if q E = 0 then g E else f E), v :: stk)
    rw [if_pos c]
    obtain ⟨n4, R4⟩ := Run1_tr R3 1 _ S
    exact Run1_tr R4 n1 _ (Run1_up (by omega) _ _ _ R1)
  · rw [if_neg c] at S
    show ∃ n, Run1 law cd E e n (s, v, stk) (e, (if q E = 0 then g E else f E), v :: stk)
    rw [if_neg c]
    obtain ⟨n4, R4⟩ := Run1_tr T n2 _ (Run1_up (by omega) _ _ _ R2)
    obtain ⟨n5, R5⟩ := Run1_tr R4 1 _ S
    exact Run1_tr R5 n1 _ (Run1_up (by omega) _ _ _ R1)
theorem bn_B {sg : Nat} (bf : fB f) (bg : fB g) (ok : ∀ E, eOK E → jnOk sg (f E) (g E)) : fB (bn sg f g) := fun E hE => jnZ_B (ok E hE) (bf E hE) (bg E hE)
theorem bn_C {sg : Nat} (hs : (32 ≤ sg ∧ sg ≤ 35) ∨ sg = 43 ∨ sg = 44 ∨ sg = 28 ∨ sg = 29) : fC (bn sg f g) := fun E hE => by
  have h : sg = 32 ∨ sg = 33 ∨ sg = 34 ∨ sg = 35 ∨ sg = 43 ∨ sg = 44 ∨ sg = 28 ∨ sg = 29 := by omega
  rcases h with rfl | rfl | rfl | rfl | rfl | rfl | rfl | rfl
  · exact b01_B _
  · exact b01_B _
  · exact b01_B _
  · exact b01_B _
  · exact b01_B _
  · exact b01_B _
  · exact b01_B _
  · exact b01_B _
end SG
