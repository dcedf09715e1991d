/-! THE ABSTRACT MACHINE IS SOUND -/
theorem mv_dec {k pc l n : Nat} {ins : Instr} (hd : decode (mvT k).2.1 pc = .ok (ins, l)) (hl : mvLen ins = 0 ∨ mvLen ins = l) (hn : mvLen ins = n + 1) : decode (mvT k).2.1 pc = .ok (ins, n + 1) := by
  rcases hl with z | z
  · omega
  · rw [hd, ← z, hn]
def mvOk2 (k pc : Nat) (ins : Instr) (im : Int) (a b w : Nat) : Bool := (match decode (mvT k).2.1 pc with
        | .ok (i, l) => decide (i = ins) && (Nat.beq (mvLen ins) 0 || Nat.beq (mvLen ins) l)
        | .error _ => false) && mvOk1 k pc ins im a b w
theorem mvOk2_spec {k pc : Nat} {ins : Instr} {im : Int} {a b w : Nat} (h : mvOk2 k pc ins im a b w = true) : (∃ l, decode (mvT k).2.1 pc = .ok (ins, l) ∧ (mvLen ins = 0 ∨ mvLen ins = l)) ∧ mvOk1 k pc ins im a b w = true := by
  unfold mvOk2 at h
  rw [Bool.and_eq_true] at h
  refine ⟨?_, h.2⟩
  have h1 := h.1
  split at h1
  · next i l hd =>
    rw [Bool.and_eq_true, Bool.or_eq_true] at h1
    obtain ⟨e, z⟩ := h1
    have e := of_decide_eq_true e
    subst e
    exact ⟨l, hd, z.imp Nat.eq_of_beq_eq_true Nat.eq_of_beq_eq_true⟩
  · cases h1
theorem mv_spec {k pc len : Nat} {ins : Instr} {im : Int} {a b w : Nat} (hk : k < mvN) (hC : mvC k pc = (ins, len, im, a, b, w)) (hn : ins ≠ .nop) : (∃ l, decode (mvT k).2.1 pc = .ok (ins, l) ∧ (mvLen ins = 0 ∨ mvLen ins = l)) ∧ mvOk1 k pc ins im a b w = true := by
  have h := mv_ok k hk pc
  unfold mvOk at h
  rw [hC] at h
  refine mvOk2_spec ?_
  cases ins <;> first | exact absurd rfl hn | exact h
section MS
variable {p : Program} {l : Launch} {e : Env} {R : Room} {s : State} {m : MethodId} {args : Array Value} {below : List Frame} {meth : Method} {c : Code} {Q : State → Prop} {E : mvE} {k : Nat}
variable {cells slots pc : Nat} {L st : List Value} {σ : mvSt}
set_option maxHeartbeats 4000000 in
theorem mv_step {q : mvQ} (X : mvCx E k p s m args meth c) (hk : k < mvN) (hkd : (mvT k).2.2.2.2.1 = 2 → (mvT k).1.name = "<init>") (h : mvStep k pc L st σ = some (.inl q)) (hf : 1 ≤ R.frames) (hlo : 100 ≤ R.locals) (hc : cells + (q.2.2.2.1.1 - σ.1.1) ≤ R.cells) (hs : slots + (q.2.2.2.1.2.1 - σ.1.2.1) ≤ R.slots)
    (G : mvG E k p l e R s m args below meth c Q (cells + (q.2.2.2.1.1 - σ.1.1)) (slots + (q.2.2.2.1.2.1 - σ.1.2.1)) q.1 q.2.1 q.2.2.1 q.2.2.2) : mvG E k p l e R s m args below meth c Q cells slots pc L st σ := by
  have hc0 : cells ≤ R.cells := by omega
  have hs0 : slots ≤ R.slots := by omega
  obtain ⟨⟨ins, len, im, a, b, w⟩, hC⟩ : ∃ x, mvC k pc = x := ⟨_, rfl⟩
  unfold mvStep at h
  rw [hC] at h
  replace h : mvX k pc ins im a b L st σ = some (.inl q) := h
  have hne : ins ≠ .nop := by
    rintro rfl
    exact nomatch (show (none : mvRs) = some (.inl q) from h)
  obtain ⟨⟨len', hd, hlen⟩, hok⟩ := mv_spec hk hC hne
  cases ins with
  | iconst i =>
    obtain rfl := mvGo_inv h
    exact fun H locs ls hW hL hl => lv_iconst X.1 X.2.1 (mv_dec hd hlen rfl) rfl (mvG_0 G H locs ls hW hL hl)
  | bipush i =>
    obtain rfl := mvGo_inv h
    exact fun H locs ls hW hL hl => lv_bipush X.1 X.2.1 (mv_dec hd hlen rfl) rfl (mvG_0 G H locs ls hW hL hl)
  | sipush i =>
    obtain rfl := mvGo_inv h
    exact fun H locs ls hW hL hl => lv_sipush X.1 X.2.1 (mv_dec hd hlen rfl) rfl (mvG_0 G H locs ls hW hL hl)
  | lconst i =>
    obtain rfl := mvGo_inv h
    exact fun H locs ls hW hL hl => lv_lconst X.1 X.2.1 (mv_dec hd hlen rfl) rfl (mvG_0 G H locs ls hW hL hl)
  | aconst_null =>
    obtain rfl := mvGo_inv h
    exact fun H locs ls hW hL hl => lv_null X.1 X.2.1 (mv_dec hd hlen rfl) (mvG_0 G H locs ls hW hL hl)
  | ldc i =>
    have hok : (bif Nat.beq b 0 then mvWd w (.constant (mvT k).1.cls i (Int32.ofInt im)) else (decide ((mvT k).1.cls = "MoonLodger$Tape") && ((Nat.beq i 34 && Nat.beq a 2) || (Nat.beq i 78 && Nat.beq a 4)))) = true := hok
    replace h : (bif Nat.beq b 0 then mvPush (pc + 2) (.int (Int32.ofInt im)) L st σ else mvPush (pc + 2) (.ref a) L st σ) = some (.inl q) := h
    cases hb : Nat.beq b 0 with
    | true =>
      rw [hb] at h hok
      obtain rfl := mvGo_inv h
      exact fun H locs ls hW hL hl => lv_ldc X.1 X.2.1 X.2.2.2.1 (mo_word X hok rfl) (mv_dec hd hlen rfl) (mvG_0 G H locs ls hW hL hl)
    | false =>
      rw [hb] at h hok
      obtain rfl := mvGo_inv h
      have hok : (decide ((mvT k).1.cls = "MoonLodger$Tape") && ((Nat.beq i 34 && Nat.beq a 2) || (Nat.beq i 78 && Nat.beq a 4))) = true := hok
      simp only [Bool.and_eq_true, Bool.or_eq_true] at hok
      exact mo_ldcS X (mv_dec hd hlen rfl) (of_decide_eq_true hok.1) (hok.2.imp (fun z => ⟨Nat.eq_of_beq_eq_true z.1, Nat.eq_of_beq_eq_true z.2⟩) (fun z => ⟨Nat.eq_of_beq_eq_true z.1, Nat.eq_of_beq_eq_true z.2⟩)) (mvG_0 G)
  | ldc_w i =>
    obtain rfl := mvGo_inv h
    exact fun H locs ls hW hL hl => lv_ldcw X.1 X.2.1 X.2.2.2.1 (mo_word X hok rfl) (mv_dec hd hlen rfl) (mvG_0 G H locs ls hW hL hl)
  | ldc2_w i =>
    obtain rfl := mvGo_inv h
    exact fun H locs ls hW hL hl => lv_ldc2 X.1 X.2.1 X.2.2.2.1 (mo_word X hok rfl) (mv_dec hd hlen rfl) (mvG_0 G H locs ls hW hL hl)
  | iload i =>
    obtain ⟨x, hx, rfl⟩ := mvLoadI_inv h
    exact mo_loadI X hx (Or.inl ⟨mv_dec hd hlen rfl, rfl⟩) (mvG_0 G)
  | iload_n i =>
    obtain ⟨x, hx, rfl⟩ := mvLoadI_inv h
    exact mo_loadI X hx (Or.inr ⟨i, rfl, rfl, mv_dec hd hlen rfl⟩) (mvG_0 G)
  | istore i =>
    obtain ⟨x, r, rfl, hx, rfl⟩ := mvStI_inv h
    exact mo_stI X hx (Or.inl ⟨mv_dec hd hlen rfl, rfl⟩) (mvG_0 G)
  | istore_n i =>
    obtain ⟨x, r, rfl, hx, rfl⟩ := mvStI_inv h
    exact mo_stI X hx (Or.inr ⟨i, rfl, rfl, mv_dec hd hlen rfl⟩) (mvG_0 G)
  | lload i =>
    obtain ⟨x, hx, rfl⟩ := mvLoadL_inv h
    exact mo_loadL X hx (Or.inl ⟨mv_dec hd hlen rfl, rfl⟩) (mvG_0 G)
  | lload_n i =>
    obtain ⟨x, hx, rfl⟩ := mvLoadL_inv h
    exact mo_loadL X hx (Or.inr ⟨i, rfl, rfl, mv_dec hd hlen rfl⟩) (mvG_0 G)
  | lstore i =>
    obtain ⟨x, r, rfl, hx, rfl⟩ := mvStL_inv h
    exact mo_stL X hx (Or.inl ⟨mv_dec hd hlen rfl, rfl⟩) (mvG_0 G)
  | lstore_n i =>
    obtain ⟨x, r, rfl, hx, rfl⟩ := mvStL_inv h
    exact mo_stL X hx (Or.inr ⟨i, rfl, rfl, mv_dec hd hlen rfl⟩) (mvG_0 G)
  | aload i =>
    obtain ⟨x, hv, hx, rfl⟩ := mvLoadA_inv h
    exact mo_loadA X hv hx (Or.inl ⟨mv_dec hd hlen rfl, rfl⟩) (mvG_0 G)
  | aload_n i =>
    obtain ⟨x, hv, hx, rfl⟩ := mvLoadA_inv h
    exact mo_loadA X hv hx (Or.inr ⟨i, rfl, rfl, mv_dec hd hlen rfl⟩) (mvG_0 G)
  | astore i =>
    obtain ⟨x, r, hv, rfl, hx, rfl⟩ := mvStA_inv h
    exact mo_stA X hv hx (Or.inl ⟨mv_dec hd hlen rfl, rfl⟩) (mvG_0 G)
  | astore_n i =>
    obtain ⟨x, r, hv, rfl, hx, rfl⟩ := mvStA_inv h
    exact mo_stA X hv hx (Or.inr ⟨i, rfl, rfl, mv_dec hd hlen rfl⟩) (mvG_0 G)
  | iinc i n =>
    replace h : mvIinc pc i n L st σ = some (.inl q) := h
    unfold mvIinc at h
    split at h
    · next x hx =>
      obtain rfl := mvGo_inv h
      exact mo_iinc X hx (mv_dec hd hlen rfl) (mvG_0 G)
    · cases h
  | iadd =>
    obtain ⟨x, y, r, rfl, rfl⟩ := mvI2_inv h
    exact fun H locs ls hW hL hl => lv_iadd X.1 X.2.1 (mv_dec hd hlen rfl) (mvG_0 G H locs ls hW hL hl)
  | isub =>
    obtain ⟨x, y, r, rfl, rfl⟩ := mvI2_inv h
    exact fun H locs ls hW hL hl => lv_isub X.1 X.2.1 (mv_dec hd hlen rfl) (mvG_0 G H locs ls hW hL hl)
  | imul =>
    obtain ⟨x, y, r, rfl, rfl⟩ := mvI2_inv h
    exact fun H locs ls hW hL hl => lv_imul X.1 X.2.1 (mv_dec hd hlen rfl) (mvG_0 G H locs ls hW hL hl)
  | iand =>
    obtain ⟨x, y, r, rfl, rfl⟩ := mvI2_inv h
    exact fun H locs ls hW hL hl => lv_iand X.1 X.2.1 (mv_dec hd hlen rfl) (mvG_0 G H locs ls hW hL hl)
  | ior =>
    obtain ⟨x, y, r, rfl, rfl⟩ := mvI2_inv h
    exact fun H locs ls hW hL hl => lv_ior X.1 X.2.1 (mv_dec hd hlen rfl) (mvG_0 G H locs ls hW hL hl)
  | ixor =>
    obtain ⟨x, y, r, rfl, rfl⟩ := mvI2_inv h
    exact fun H locs ls hW hL hl => lv_ixor X.1 X.2.1 (mv_dec hd hlen rfl) (mvG_0 G H locs ls hW hL hl)
  | ishl =>
    obtain ⟨x, y, r, rfl, rfl⟩ := mvI2_inv h
    exact fun H locs ls hW hL hl => lv_ishl X.1 X.2.1 (mv_dec hd hlen rfl) (mvG_0 G H locs ls hW hL hl)
  | ishr =>
    obtain ⟨x, y, r, rfl, rfl⟩ := mvI2_inv h
    exact fun H locs ls hW hL hl => lv_ishr X.1 X.2.1 (mv_dec hd hlen rfl) (mvG_0 G H locs ls hW hL hl)
  | iushr =>
    obtain ⟨x, y, r, rfl, rfl⟩ := mvI2_inv h
    exact fun H locs ls hW hL hl => lv_iushr X.1 X.2.1 (mv_dec hd hlen rfl) rfl (mvG_0 G H locs ls hW hL hl)
  | idiv =>
    obtain ⟨x, y, r, rfl, hy, rfl⟩ := mvI2z_inv h
    exact fun H locs ls hW hL hl => lv_idiv X.1 X.2.1 (mv_dec hd hlen rfl) hy (mvG_0 G H locs ls hW hL hl)
  | irem =>
    obtain ⟨x, y, r, rfl, hy, rfl⟩ := mvI2z_inv h
    exact fun H locs ls hW hL hl => lv_irem X.1 X.2.1 (mv_dec hd hlen rfl) hy (mvG_0 G H locs ls hW hL hl)
  | ineg =>
    obtain ⟨x, r, rfl, rfl⟩ := mvI1_inv h
    exact fun H locs ls hW hL hl => lv_ineg X.1 X.2.1 (mv_dec hd hlen rfl) (mvG_0 G H locs ls hW hL hl)
  | i2b =>
    obtain ⟨x, r, rfl, rfl⟩ := mvI1_inv h
    exact fun H locs ls hW hL hl => lv_i2b X.1 X.2.1 (mv_dec hd hlen rfl) rfl (mvG_0 G H locs ls hW hL hl)
  | i2c =>
    obtain ⟨x, r, rfl, rfl⟩ := mvI1_inv h
    exact fun H locs ls hW hL hl => lv_i2c X.1 X.2.1 (mv_dec hd hlen rfl) rfl (mvG_0 G H locs ls hW hL hl)
  | i2l =>
    replace h : mvI2L pc L st σ = some (.inl q) := h
    unfold mvI2L at h
    split at h
    · obtain rfl := mvGo_inv h
      exact fun H locs ls hW hL hl => lv_i2l X.1 X.2.1 (mv_dec hd hlen rfl) rfl (mvG_0 G H locs ls hW hL hl)
    · cases h
  | l2i =>
    replace h : mvL2I pc L st σ = some (.inl q) := h
    unfold mvL2I at h
    split at h
    · obtain rfl := mvGo_inv h
      exact fun H locs ls hW hL hl => lv_l2i X.1 X.2.1 (mv_dec hd hlen rfl) rfl (mvG_0 G H locs ls hW hL hl)
    · cases h
  | ladd =>
    obtain ⟨x, y, r, rfl, rfl⟩ := mvL2_inv h
    exact fun H locs ls hW hL hl => lv_ladd X.1 X.2.1 (mv_dec hd hlen rfl) (mvG_0 G H locs ls hW hL hl)
  | lsub =>
    obtain ⟨x, y, r, rfl, rfl⟩ := mvL2_inv h
    exact fun H locs ls hW hL hl => lv_lsub X.1 X.2.1 (mv_dec hd hlen rfl) (mvG_0 G H locs ls hW hL hl)
  | lmul =>
    obtain ⟨x, y, r, rfl, rfl⟩ := mvL2_inv h
    exact fun H locs ls hW hL hl => lv_lmul X.1 X.2.1 (mv_dec hd hlen rfl) (mvG_0 G H locs ls hW hL hl)
  | lor =>
    obtain ⟨x, y, r, rfl, rfl⟩ := mvL2_inv h
    exact fun H locs ls hW hL hl => lv_lor X.1 X.2.1 (mv_dec hd hlen rfl) (mvG_0 G H locs ls hW hL hl)
  | ldiv =>
    obtain ⟨x, y, r, rfl, hy, rfl⟩ := mvL2z_inv h
    exact fun H locs ls hW hL hl => lv_ldiv X.1 X.2.1 (mv_dec hd hlen rfl) hy (mvG_0 G H locs ls hW hL hl)
  | lrem =>
    obtain ⟨x, y, r, rfl, hy, rfl⟩ := mvL2z_inv h
    exact fun H locs ls hW hL hl => lv_lrem X.1 X.2.1 (mv_dec hd hlen rfl) hy (mvG_0 G H locs ls hW hL hl)
  | lshl =>
    obtain ⟨x, y, r, rfl, rfl⟩ := mvLsh_inv h
    exact fun H locs ls hW hL hl => lv_lshl X.1 X.2.1 (mv_dec hd hlen rfl) rfl (mvG_0 G H locs ls hW hL hl)
  | lshr =>
    obtain ⟨x, y, r, rfl, rfl⟩ := mvLsh_inv h
    exact fun H locs ls hW hL hl => lv_lshr X.1 X.2.1 (mv_dec hd hlen rfl) rfl (mvG_0 G H locs ls hW hL hl)
  | lneg =>
    replace h : mvLneg pc L st σ = some (.inl q) := h
    unfold mvLneg at h
    split at h
    · obtain rfl := mvGo_inv h
      exact fun H locs ls hW hL hl => lv_lneg X.1 X.2.1 (mv_dec hd hlen rfl) (mvG_0 G H locs ls hW hL hl)
    · cases h
  | lcmp =>
    replace h : mvLcmp pc L st σ = some (.inl q) := h
    unfold mvLcmp at h
    split at h
    · obtain rfl := mvGo_inv h
      exact fun H locs ls hW hL hl => W.lcmp X.1 X.2.1 (mv_dec hd hlen rfl) (mvG_0 G H locs ls hW hL hl)
    · cases h
  | dup =>
    replace h : mvDup pc L st σ = some (.inl q) := h
    unfold mvDup at h
    split at h
    · next v r =>
      cases hv : mvIsL v with
      | true => rw [hv] at h; cases h
      | false =>
        rw [hv] at h
        obtain rfl := mvGo_inv h
        exact fun H locs ls hW hL hl => lv_dup X.1 X.2.1 (mv_dec hd hlen rfl) (mv_cat1 hv) (mvG_0 G H locs ls hW hL hl)
    · cases h
  | dup2 =>
    replace h : mvDup2 pc L st σ = some (.inl q) := h
    unfold mvDup2 at h
    split at h
    · next v u r =>
      cases hv : mvIsL v with
      | true => rw [hv] at h; cases h
      | false =>
        cases hu : mvIsL u with
        | true => rw [hv, hu] at h; cases h
        | false =>
          rw [hv, hu] at h
          obtain rfl := mvGo_inv h
          exact fun H locs ls hW hL hl => lv_dup2_11 X.1 X.2.1 (mv_dec hd hlen rfl) (mv_cat1 hv) (mv_cat1 hu) (mvG_0 G H locs ls hW hL hl)
    · cases h
  | pop =>
    replace h : mvPop pc L st σ = some (.inl q) := h
    unfold mvPop at h
    split at h
    · next v r =>
      cases hv : mvIsL v with
      | true => rw [hv] at h; cases h
      | false =>
        rw [hv] at h
        obtain rfl := mvGo_inv h
        exact fun H locs ls hW hL hl => lv_pop X.1 X.2.1 (mv_dec hd hlen rfl) (mv_cat1 hv) (mvG_0 G H locs ls hW hL hl)
    · cases h
  | ifCond cc off =>
    have h0 : 0 ≤ (pc : Int) + off := of_decide_eq_true hok
    replace h : mvIf1 pc cc off L st σ = some (.inl q) := h
    unfold mvIf1 at h
    split at h
    · next x r =>
      refine mo_c1 X (mv_dec hd hlen rfl) h0 (fun hq => ?_) (fun hq => ?_)
      · rw [hq] at h
        obtain ⟨t, ht, rfl⟩ := mvJ_inv h
        rw [show ((pc : Int) + off).toNat = t by omega]
        exact mvG_0 G
      · rw [hq] at h
        obtain rfl := mvGo_inv h
        exact mvG_0 G
    · cases h
  | if_icmp cc off =>
    have h0 : 0 ≤ (pc : Int) + off := of_decide_eq_true hok
    replace h : mvIf2 pc cc off L st σ = some (.inl q) := h
    unfold mvIf2 at h
    split at h
    · next y x r =>
      refine mo_c2 X (mv_dec hd hlen rfl) h0 (fun hq => ?_) (fun hq => ?_)
      · rw [hq] at h
        obtain ⟨t, ht, rfl⟩ := mvJ_inv h
        rw [show ((pc : Int) + off).toNat = t by omega]
        exact mvG_0 G
      · rw [hq] at h
        obtain rfl := mvGo_inv h
        exact mvG_0 G
    · cases h
  | ifnull off =>
    replace h : mvIfN pc off L st σ = some (.inl q) := h
    unfold mvIfN at h
    split at h
    · obtain ⟨t, ht, rfl⟩ := mvJ_inv h
      exact mo_ifnullN X (mv_dec hd hlen rfl) ht (mvG_0 G)
    · next x r =>
      cases hx : Nat.beq x 6 with
      | true => rw [hx] at h; cases h
      | false =>
        rw [hx] at h
        obtain rfl := mvGo_inv h
        exact mo_ifnull X (Nat.ne_of_beq_eq_false hx) (mv_dec hd hlen rfl) (mvG_0 G)
    · cases h
  | ifnonnull off =>
    replace h : mvIfNN pc off L st σ = some (.inl q) := h
    unfold mvIfNN at h
    split at h
    · obtain rfl := mvGo_inv h
      exact mo_ifnonnullN X (mv_dec hd hlen rfl) (mvG_0 G)
    · next x r =>
      cases hx : Nat.beq x 6 with
      | true => rw [hx] at h; cases h
      | false =>
        rw [hx] at h
        obtain ⟨t, ht, rfl⟩ := mvJ_inv h
        exact mo_ifnonnull X (Nat.ne_of_beq_eq_false hx) (mv_dec hd hlen rfl) ht (mvG_0 G)
    · cases h
  | if_acmp cc off =>
    cases cc with
    | eq => exact nomatch (show (none : mvRs) = some (.inl q) from h)
    | ne =>
      have h0 : 0 ≤ (pc : Int) + off := of_decide_eq_true hok
      replace h : mvAcmp pc off L st σ = some (.inl q) := h
      unfold mvAcmp at h
      split at h
      · next y x r =>
        obtain ⟨h1, h2⟩ := mvCond_inv h
        rw [Bool.and_eq_true] at h1
        refine mo_acmp (rx := some x) (ry := some y) X (fun a e => by cases e; exact Nat.le_of_ble_eq_true h1.1) (fun a e => by cases e; exact Nat.le_of_ble_eq_true h1.2) (mv_dec hd hlen rfl) h0 (fun hq => ?_) (fun hq => ?_)
        · cases hxy : Nat.beq x y with
          | true => exact absurd (by rw [Nat.eq_of_beq_eq_true hxy]) hq
          | false =>
            rw [hxy] at h2
            obtain ⟨t, ht, rfl⟩ := mvJ_inv h2
            rw [show ((pc : Int) + off).toNat = t by omega]
            exact mvG_0 G
        · rw [Option.some.inj hq, show Nat.beq y y = true from Nat.beq_refl y] at h2
          obtain rfl := mvGo_inv h2
          exact mvG_0 G
      · next x r =>
        obtain ⟨h1, h2⟩ := mvCond_inv h
        refine mo_acmp (rx := some x) (ry := none) X (fun a e => by cases e; exact Nat.le_of_ble_eq_true h1) (fun a e => by cases e) (mv_dec hd hlen rfl) h0 (fun hq => ?_) (fun hq => by cases hq)
        obtain ⟨t, ht, rfl⟩ := mvJ_inv h2
        rw [show ((pc : Int) + off).toNat = t by omega]
        exact mvG_0 G
      · next y r =>
        obtain ⟨h1, h2⟩ := mvCond_inv h
        refine mo_acmp (rx := none) (ry := some y) X (fun a e => by cases e) (fun a e => by cases e; exact Nat.le_of_ble_eq_true h1) (mv_dec hd hlen rfl) h0 (fun hq => ?_) (fun hq => by cases hq)
        obtain ⟨t, ht, rfl⟩ := mvJ_inv h2
        rw [show ((pc : Int) + off).toNat = t by omega]
        exact mvG_0 G
      · next r =>
        refine mo_acmp (rx := none) (ry := none) X (fun a e => by cases e) (fun a e => by cases e) (mv_dec hd hlen rfl) h0 (fun hq => absurd rfl hq) (fun hq => ?_)
        obtain rfl := mvGo_inv h
        exact mvG_0 G
      · cases h
  | goto off =>
    obtain ⟨t, ht, rfl⟩ := mvJ_inv h
    exact mo_goto X (mv_dec hd hlen rfl) ht (mvG_0 G)
  | tableswitch d lo hi offs =>
    replace h : mvTab pc d lo hi offs L st σ = some (.inl q) := h
    unfold mvTab at h
    split at h
    · next x r =>
      split at h
      · next hx =>
        obtain ⟨t, ht, rfl⟩ := mvJ_inv h
        exact mo_tableOut X hd hx ht (mvG_0 G)
      · next hx =>
        split at h
        · next off ho =>
          obtain ⟨t, ht, rfl⟩ := mvJ_inv h
          exact mo_tableIn X hd hx ho ht (mvG_0 G)
        · cases h
    · cases h
  | lookupswitch d ps =>
    replace h : mvLook pc d ps L st σ = some (.inl q) := h
    unfold mvLook at h
    split at h
    · next x r =>
      obtain ⟨t, ht, rfl⟩ := mvJ_inv h
      exact mo_lookup X hd hok ht (mvG_0 G)
    · cases h
  | getfield i =>
    have hok : (bif Nat.beq a 13 then (bif Nat.beq b 0 then mvWd w (.fieldLink (mvT k).1.cls i "java/lang/String" "value" "[B") else (Nat.beq b 1 && mvWd w (.fieldLink (mvT k).1.cls i "java/lang/String" "coder" "B")))
      else (Nat.blt a 13 && Nat.blt b (mvNf a) && (mvWd w (.fieldLink (mvT k).1.cls i (mvCn a) (mvF a b).2.1 (mvF a b).2.2.1) || mvWd w (.fieldLinkNest (mvT k).1.cls i (mvCn a) (mvF a b).2.1 (mvF a b).2.2.1 mvHo)))) = true := hok
    exact mv_getf X (mv_dec hd hlen rfl) hok h G
  | putfield i => exact mv_putf X hkd (mv_dec hd hlen rfl) hok h G
  | getstatic i => exact mv_gets X (mv_dec hd hlen rfl) hok h G
  | iaload =>
    obtain ⟨i, o, r, rfl, h1, h2, rfl⟩ := mvIald_inv h
    exact mo_iald X (mv_dec hd hlen rfl) h1 h2 (mvG_0 G)
  | baload =>
    obtain ⟨i, o, r, rfl, h1, h2, rfl⟩ := mvBald_inv h
    exact mo_bald X (mv_dec hd hlen rfl) h1 h2 (mvG_0 G)
  | laload =>
    obtain ⟨i, o, r, rfl, h1, h2, rfl⟩ := mvLald_inv h
    exact mo_lald X (mv_dec hd hlen rfl) h1 h2 (mvG_0 G)
  | aaload =>
    obtain ⟨i, o, r, rfl, h1, h2, rfl⟩ := mvAald_inv h
    exact mo_aald X (mv_dec hd hlen rfl) h1 h2 (mvG_0 G)
  | iastore =>
    obtain ⟨v, i, o, r, rfl, h1, h2, rfl⟩ := mvIast_inv h
    exact mo_iast X (mv_dec hd hlen rfl) h1 h2 (mvG_0 G)
  | bastore =>
    obtain ⟨v, i, o, r, rfl, h1, h2, h3, rfl⟩ := mvBast_inv h
    exact mo_bast X (mv_dec hd hlen rfl) h1 h2 h3 (mvG_0 G)
  | lastore =>
    obtain ⟨v, i, o, r, rfl, h1, h2, rfl⟩ := mvLast_inv h
    exact mo_last X (mv_dec hd hlen rfl) h1 h2 (mvG_0 G)
  | aastore =>
    obtain ⟨v, i, o, r, rfl, h1, h2, h3, rfl⟩ := mvAast_inv h
    exact mo_aast X (mv_dec hd hlen rfl) h1 h3 h2 (mvG_0 G)
  | arraylength =>
    obtain ⟨o, r, rfl, h1, rfl⟩ := mvAlen_inv h
    exact mo_alen X (mv_dec hd hlen rfl) h1 (mvG_0 G)
  | newarray t =>
    cases t with
    | int =>
      obtain ⟨n, r, rfl, h1, h2, rfl⟩ := mvNewA_inv h
      obtain ⟨hc, hs, G⟩ := mv_made hc hs G
      exact mo_newI X (mv_dec hd hlen rfl) h1 h2 hc hs G
    | long =>
      obtain ⟨n, r, rfl, h1, h2, rfl⟩ := mvNewA_inv h
      obtain ⟨hc, hs, G⟩ := mv_made hc hs G
      exact mo_newL X (mv_dec hd hlen rfl) h1 h2 hc hs G
    | boolean =>
      obtain ⟨n, r, rfl, h1, h2, rfl⟩ := mvNewA_inv h
      obtain ⟨hc, hs, G⟩ := mv_made hc hs G
      exact mo_newZ X (mv_dec hd hlen rfl) h1 h2 hc hs G
    | _ => exact nomatch (show (none : mvRs) = some (.inl q) from h)
  | anewarray i =>
    obtain ⟨n, r, rfl, h1, h2, rfl⟩ := mvNewA_inv h
    obtain ⟨hc, hs, G⟩ := mv_made hc hs G
    exact mo_newA X (mv_dec hd hlen rfl) hok h1 h2 hc hs G
  | new i =>
    obtain rfl := mvGo_inv h
    obtain ⟨hc, hs, G⟩ := mv_made hc hs G
    have hok : (Nat.blt a 13 && mvWd w (.classLink (mvT k).1.cls i (mvCn a))) = true := hok
    rw [Bool.and_eq_true] at hok
    exact mo_new X (mv_dec hd hlen rfl) (Nat.blt_eq.mp hok.1) hok.2 hc hs G
  | invokevirtual i => exact absurd h (mvCall_go a)
  | invokestatic i => exact mv_stat X (mv_dec hd hlen rfl) hok h hf hlo hc0 hs0 G
  | invokespecial i => exact mv_spcl X (mv_dec hd hlen rfl) hok h hf hlo G
  | ireturn => exact absurd h (mv_iret_go)
  | lreturn => exact absurd h (mv_lret_go)
  | areturn => exact absurd h (mv_aret_go)
  | return_ => exact absurd h (mv_vret_go)
  | _ => exact nomatch (show (none : mvRs) = some (.inl q) from h)
end MS
