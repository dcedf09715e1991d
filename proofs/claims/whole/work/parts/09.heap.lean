/-! fields, rows, new cells -/
section MH
variable {p : Program} {l : Launch} {e : Env} {R : Room} {s : State} {m : MethodId} {args : Array Value} {below : List Frame} {meth : Method} {c : Code} {Q : State → Prop} {E : mvE} {k : Nat}
variable {cells slots pc : Nat} {L st : List Value} {σ : mvSt}
theorem mo_word {w : Nat} {q : Cond} (X : mvCx E k p s m args meth c) (h : mvWd w q = true) (hk : mvKeep q = true) : q.before args s = true := mv_word h hk X.2.2.2.2.1
/-- an object's cell -/
theorem mo_cell {H : Heap} (hW : mvWorld E σ H) (hK : mvKF E s) {o a : Nat} (ho : (σ.1.2.2 o).1 = a) (ha : a < 13) : 7 ≤ o ∧ o < σ.1.1 ∧ ∃ cell : Cell, H[mvAd E o]? = some cell ∧ cell.cls = E.1.1 a ∧ cell.vm = .none ∧ ∀ b, b < mvNf a → cell.slots[E.1.2 a b]? = some (mvTv E (mvFv a b (σ.2.1 o) (σ.2.2.1 o) (σ.2.2.2 o))) := by
  obtain ⟨h1, h2⟩ := mo_own hW hK (o := o) (Or.inl (by omega))
  refine ⟨h1, h2, ?_⟩
  have h3 := hW.2.2.2.2.1 o h1 h2
  unfold mvCell at h3
  rw [ho] at h3
  rcases h3 with ⟨-, h3⟩ | ⟨h3, -⟩ | ⟨h3, -⟩ | ⟨h3, -⟩ | ⟨h3, -⟩
  · exact h3
  all_goals omega
theorem mo_get (X : mvCx E k p s m args meth c) {i a b o w : Nat} (hd : decode (mvT k).2.1 pc = .ok (.getfield i, 3)) (ho : (σ.1.2.2 o).1 = a) (ha : a < 13) (hb : b < mvNf a)
    (hl : mvWd w (.fieldLink (mvT k).1.cls i (mvCn a) (mvF a b).2.1 (mvF a b).2.2.1) = true ∨ mvWd w (.fieldLinkNest (mvT k).1.cls i (mvCn a) (mvF a b).2.1 (mvF a b).2.2.1 mvHo) = true)
    (G : mvG E k p l e R s m args below meth c Q cells slots (pc + 3) L (mvFv a b (σ.2.1 o) (σ.2.2.1 o) (σ.2.2.2 o) :: st) σ) : mvG E k p l e R s m args below meth c Q cells slots pc L (.ref o :: st) σ := by
  intro H locs ls hW hL hlo
  have hK := X.2.2.2.2.2.2
  obtain ⟨h7, hn, cell, q1, q2, q3, q4⟩ := mo_cell hW hK ho ha
  obtain ⟨hS, hfc, kC, hkC, hkind⟩ := hK.1 a _ (mv_gc a ha)
  obtain ⟨cf, kf, fi, f, hi, hsl⟩ := hS b hb
  have hst := (u_facts hfc hkC (u_lays X.2.2.2.2.1 (mv_lay ha) hb) hi).1
  dsimp only at hi
  rw [(mv_fld ha hb).1] at hi
  have hslot : cell.slots[f.slot]? = some (mvTv E (mvFv a b (σ.2.1 o) (σ.2.2.1 o) (σ.2.2.2 o))) := by rw [hsl]; exact q4 b hb
  rw [List.map_cons, mvTv_own h7]
  rcases hl with hl | hl
  · exact W.getf X.1 X.2.1 X.2.2.2.1 (mo_word X hl rfl) hi hst q1 (by rw [q3]; exact fun h => by cases h) hslot rfl rfl hd (G H locs ls hW hL hlo)
  · exact va_Wgetf X.1 X.2.1 X.2.2.2.1 (mo_word X hl rfl) hi hst q1 (by rw [q3]; exact fun h => by cases h) hslot rfl rfl hd (G H locs ls hW hL hlo)
/-- one cell of ours is written -/
theorem mo_write {H H1 : Heap} {σ' : mvSt} (hW : mvWorld E σ H) {o : Nat} (h7 : 7 ≤ o) (hs1 : σ'.1 = σ.1) (hs2 : ∀ id, id ≠ o → σ'.2.1 id = σ.2.1 id ∧ σ'.2.2.1 id = σ.2.2.1 id ∧ σ'.2.2.2 id = σ.2.2.2 id) (hz : H1.size = H.size) (hq : ∀ q, q ≠ mvAd E o → H1[q]? = H[q]?)
    (hc : mvCell E o (σ.1.2.2 o) (σ'.2.1 o) (σ'.2.2.1 o) (σ'.2.2.2 o) H1) : mvWorld E σ' H1 := by
  obtain ⟨h1, h2, h3, h4, h5, h6⟩ := hW
  refine ⟨by rw [hs1]; exact h1, by rw [hz, hs1]; exact h2, fun q hl => ?_, fun id hid => by rw [hs1] at hid ⊢; exact h4 id hid, fun id hid hlt => ?_, fun id hid => ?_⟩
  · rw [hq q (by unfold mvAd; omega)]
    exact h3 q hl
  · rw [hs1] at hlt ⊢
    by_cases e : id = o
    · subst e
      exact hc
    · obtain ⟨e1, e2, e3⟩ := hs2 id e
      rw [e1, e2, e3]
      exact (h5 id hid hlt).kept (hq _ (by unfold mvAd; omega))
  · obtain ⟨e1, e2, e3⟩ := hs2 id (by omega)
    rw [hs1, e1, e3]
    exact h6 id hid
theorem mo_mput_self {α : Type} (h : Nat → Nat → α) (o b : Nat) (v : α) : mvPut h o b v o = va_up (h o) b v := if_pos rfl
theorem mo_mput_ne {α : Type} (h : Nat → Nat → α) {o id : Nat} (b : Nat) (v : α) (hne : id ≠ o) : mvPut h o b v id = h id := if_neg hne
/-- a field of ours is written -/
theorem mo_put (X : mvCx E k p s m args meth c) {i a b o w : Nat} {v : Value} {σ' : mvSt} (hd : decode (mvT k).2.1 pc = .ok (.putfield i, 3)) (ho : (σ.1.2.2 o).1 = a) (ha : a < 13) (hb : b < mvNf a)
    (hl : ((mvF a b).2.2.2 = false ∧ (mvWd w (.fieldLink (mvT k).1.cls i (mvCn a) (mvF a b).2.1 (mvF a b).2.2.1) = true ∨ mvWd w (.fieldLinkNest (mvT k).1.cls i (mvCn a) (mvF a b).2.1 (mvF a b).2.2.1 mvHo) = true))
      ∨ ((mvF a b).2.2.2 = true ∧ ((mvT k).2.2.2.2.1 = 2 ∧ (mvT k).1.name = "<init>") ∧ (mvT k).1.cls = mvCn a ∧ mvWd w (.fieldLink (mvT k).1.cls i (mvCn a) (mvF a b).2.1 (mvF a b).2.2.1) = true))
    (hn : narrow (gTy a b) (mvTv E v) = mvTv E v) (hf : fits (gTy a b) (mvTv E v) = true)
    (hs1 : σ'.1 = σ.1) (hs2 : ∀ id, id ≠ o → σ'.2.1 id = σ.2.1 id ∧ σ'.2.2.1 id = σ.2.2.1 id ∧ σ'.2.2.2 id = σ.2.2.2 id) (hv : mvFv a b (σ'.2.1 o) (σ'.2.2.1 o) (σ'.2.2.2 o) = v) (hv2 : ∀ d, d < mvNf a → d ≠ b → mvFv a d (σ'.2.1 o) (σ'.2.2.1 o) (σ'.2.2.2 o) = mvFv a d (σ.2.1 o) (σ.2.2.1 o) (σ.2.2.2 o))
    (G : mvG E k p l e R s m args below meth c Q cells slots (pc + 3) L st σ') : mvG E k p l e R s m args below meth c Q cells slots pc L (v :: .ref o :: st) σ := by
  intro H locs ls hW hL hlo
  have hK := X.2.2.2.2.2.2
  obtain ⟨h7, hlt, cell, q1, q2, q3, q4⟩ := mo_cell hW hK ho ha
  obtain ⟨hS, hfc, kC, hkC, hkind⟩ := hK.1 a _ (mv_gc a ha)
  obtain ⟨cf, kf, fi, f, hi, hsl⟩ := hS b hb
  have hlays := u_lays X.2.2.2.2.1 (mv_lay ha) hb
  have hst := (u_facts hfc hkC hlays hi).1
  have hfd := mv_fld ha hb
  have hap : ∀ x y, x < mvNf a → y < mvNf a → x ≠ y → E.1.2 a x ≠ E.1.2 a y := by
    intro x y hx hy hne
    obtain ⟨_, _, _, fa, hia, ea⟩ := hS x hx
    obtain ⟨_, _, _, fb, hib, eb⟩ := hS y hy
    rw [← ea, ← eb]
    refine u_apart (u_lays X.2.2.2.2.1 (mv_lay ha) hx) (u_lays X.2.2.2.2.1 (mv_lay ha) hy) hia hib ?_
    rw [(State.fieldFound?_type hia (mv_fld ha hx).2.1).1, (State.fieldFound?_type hib (mv_fld ha hy).2.1).1]
    exact (mv_fld ha hx).2.2.2.2 y hy hne
  have hlt2 : f.slot < cell.slots.size := by rw [hsl]; exact k2_hasslot (q4 b hb)
  have key : ∀ H' : Heap, H'[mvAd E o]? = some (cell.setSlot f.slot (mvTv E v)) → H'.size = H.size → (∀ q, q ≠ mvAd E o → H'[q]? = H[q]?) → W p l e R s m args below meth c H' (locs ++ [⟨mvAd E o, f.slot⟩]) cells slots Q (F0 m (pc + 3) ls (st.map (mvTv E))) := by
    intro H' e1 e2 e3
    refine G H' _ ls (mo_write hW h7 hs1 hs2 e2 e3 ?_) hL (fun q hq => ?_)
    · refine Or.inl ⟨by rw [ho]; exact ha, cell.setSlot f.slot (mvTv E v), e1, by rw [ho]; exact q2, q3, fun d hdl => ?_⟩
      rw [ho] at hdl ⊢
      rw [hsl]
      have h9 := t_set (V := fun d => mvTv E (mvFv a d (σ.2.1 o) (σ.2.2.1 o) (σ.2.2.2 o))) q4 hap hb (mvTv E v) d hdl
      rw [h9]
      congr 1
      by_cases hdb : d = b
      · subst hdb
        rw [hv]
        simp [updV]
      · rw [hv2 d hdl hdb]
        simp [updV, hdb]
    · rcases List.mem_append.mp hq with h | h
      · exact hlo q h
      · rw [List.mem_singleton.mp h]
        show (mvH E).size ≤ mvAd E o
        unfold mvAd
        omega
  rw [List.map_cons, List.map_cons, mvTv_own h7]
  have hi' := hi
  dsimp only at hi'
  rw [hfd.1] at hi'
  rcases hl with ⟨hfin, hl⟩ | ⟨hfin, hin, hcn, hl⟩
  · have hlay := X.2.2.2.2.1 _ (mv_lay ha _ (u_in_lay hb))
    unfold u_lay at hlay
    rw [if_neg (by rw [hfin]; decide)] at hlay
    have h6 := u_store hfc hkC hkind hlay hi hfd.2.1 hn hf
    rcases hl with hl | hl
    · exact W.putK X.1 X.2.1 (f := f) ⟨X.2.2.2.1, mo_word X hl rfl, ⟨_, _, _, hi'⟩, hst⟩ (by rw [q2]; exact h6) q1 q3 hlt2 rfl rfl hd key
    · exact va_WputK X.1 X.2.1 (f := f) X.2.2.2.1 (mo_word X hl rfl) hi' hst (by rw [q2]; exact h6) q1 q3 hlt2 rfl rfl hd key
  · have hlay := X.2.2.2.2.1 _ (mv_lay ha _ (u_in_lay hb))
    unfold u_lay at hlay
    rw [if_pos hfin] at hlay
    have hcf : m.cls = cf := by
      obtain ⟨_, _, c', _, _, _, -, -, hf', -, -, -, hown2, -⟩ := Cond.laysFinal_spec hlay
      have e1 : c' = cf := by have := hi.symm.trans hf'; simp at this; exact this.1.symm
      rw [hfd.1, ← hcn] at hown2
      rw [← e1]; exact Option.some.inj (X.2.2.2.1.symm.trans hown2)
    have h6 := u_fits hfc hkC hkind (Or.inr hlay) hi hfd.2.1 hn hf
    exact W.putFinK X.1 X.2.1 X.2.2.2.1 (mo_word X hl rfl) hi' hst hcf ((X.2.2.2.2.2.1 hin.1).trans hin.2) (by rw [q2]; exact h6) q1 q3 hlt2 rfl rfl hd key
end MH
