/-! THE LAW: its loop over the script -/
theorem st_cell (c k : Int32) : stG 1 2 19 [.ref 7, .int c, .int k] 2 183 [.ref 81, .int c, .int k] := stG_of (fun A B TX hA hB hn hc => by
  obtain ⟨r, A', P⟩ := p_cell (B := B) (TX := TX) hA c k
  exact ⟨_, _, _, P.1, P.2.1⟩)
theorem st_height (c v : Int32) : stG 1 1 28 [.ref 7, .int c, .int v] 2 188 [.ref 81, .int c, .int v] := stG_of (fun A B TX hA hB hn hc => by
  obtain ⟨r, A', P⟩ := p_height (B := B) (TX := TX) hA c v
  exact ⟨_, _, _, P.1, P.2.1⟩)
theorem st_beast (c m : Int32) : stG 0 2 29 [.ref 7, .int c, .int m] 3 189 [.ref 81, .int c, .int m] := stG_of (fun A B TX hA hB hn hc => by
  obtain ⟨r, A', P, _⟩ := p_beast (B := B) (TX := TX) hA c m
  exact ⟨_, _, _, P.1, P.2.1⟩)
theorem st_by (v : Int32) : stG 0 1 82 [.ref 7, .int v] 1 235 [.ref 81, .int v] := stG_of (fun A B TX hA hB hn hc => by
  obtain ⟨r, A', P⟩ := p_by (B := B) (TX := TX) hA v
  exact ⟨_, _, _, P.1, P.2.1⟩)
theorem st_lodge (c : Int32) : stG 0 3 84 [.ref 7, .int c] 4 237 [.ref 81, .int c] := stG_of (fun A B TX hA hB hn hc => by
  obtain ⟨r, A', P⟩ := p_lodge (B := B) (TX := TX) hA c
  exact ⟨_, _, _, P.1, P.2.1⟩)
theorem st_out : stG 0 2 88 [.ref 7] 2 240 [.ref 81] := stG_of (fun A B TX hA hB hn hc => by
  obtain ⟨r, A', P⟩ := p_out (B := B) (TX := TX) hA
  exact ⟨_, _, _, P.1, P.2.1⟩)
theorem st_lead (b c : Int32) : stG 0 4 89 [.ref 7, .int b, .int c] 7 241 [.ref 81, .int b, .int c] := stG_of (fun A B TX hA hB hn hc => by
  obtain ⟨r, A', P⟩ := p_lead (B := B) (TX := TX) hA b c
  exact ⟨_, _, _, P.1, P.2.1⟩)
theorem st_hour (n : Int32) : stG 60 6 96 [.ref 7, .int n] 10 249 [.ref 81, .int n] := stG_of (fun A B TX hA hB hn hc => by
  obtain ⟨r, A', P⟩ := p_hour (B := B) (TX := TX) hA n
  exact ⟨_, _, _, P.1, P.2.1⟩)
theorem st_played (v : Int32) : stG 1440 7 113 [.ref 7, .int v] 11 272 [.ref 81, .int v] := stG_of (fun A B TX hA hB hn hc => by
  obtain ⟨r, A', P⟩ := p_played (B := B) (TX := TX) hA hc v
  exact ⟨_, _, _, P.1, P.2.1⟩)
theorem st_years (s n : Int32) : stG 40 7 115 [.ref 7, .int s, .int n] 10 274 [.ref 81, .int s, .int n] := stG_of (fun A B TX hA hB hn hc => by
  obtain ⟨r, A', P⟩ := p_years (B := B) (TX := TX) hA s n
  exact ⟨_, _, _, P.1, P.2.1⟩)
theorem st_undo : stG 0 3 117 [.ref 7] 2 236 [.ref 81] := stG_of (fun A B TX hA hB hn hc => by
  obtain ⟨r, A', P⟩ := p_undo (B := B) (TX := TX) hA
  exact ⟨_, _, _, P.1, P.2.1⟩)
theorem st_of (b w : Int32) : stG 1 5 120 [.ref 7, .int b, .int w] 7 276 [.ref 81, .int b, .int w] := stG_of (fun A B TX hA hB hn hc => by
  obtain ⟨r, P⟩ := p_of (B := B) (TX := TX) hA b w
  exact ⟨_, _, _, P.1, P.2.1⟩)
theorem st_ofCell (c w : Int32) : stG 1 4 122 [.ref 7, .int c, .int w] 7 277 [.ref 81, .int c, .int w] := stG_of (fun A B TX hA hB hn hc => by
  obtain ⟨r, P⟩ := p_ofCell (B := B) (TX := TX) hA c w
  exact ⟨_, _, _, P.1, P.2.1⟩)
theorem st_is (w : Int32) : stG 1 5 123 [.ref 7, .int w] 8 278 [.ref 81, .int w] := stG_of (fun A B TX hA hB hn hc => by
  obtain ⟨r, P⟩ := p_is (B := B) (TX := TX) hA w
  exact ⟨_, _, _, P.1, P.2.1⟩)
theorem st_book (i w : Int32) : stG 0 1 124 [.ref 7, .int i, .int w] 1 279 [.ref 81, .int i, .int w] := stG_of (fun A B TX hA hB hn hc => by
  obtain ⟨r, P⟩ := p_book (B := B) (TX := TX) hA i w
  exact ⟨_, _, _, P.1, P.2.1⟩)
theorem st_foretold (n w b : Int32) : stG 60 6 129 [.ref 7, .int n, .int w, .int b] 9 286 [.ref 81, .int n, .int w, .int b] := stG_of (fun A B TX hA hB hn hc => by
  obtain ⟨r, P⟩ := p_foretold (B := B) (TX := TX) hA n w b
  exact ⟨_, _, _, P.1, P.2.1⟩)
theorem st_steps (a b : Int32) : stG 0 3 131 [.ref 7, .int a, .int b] 6 289 [.ref 81, .int a, .int b] := stG_of (fun A B TX hA hB hn hc => by
  obtain ⟨r, P⟩ := p_steps (B := B) (TX := TX) hA a b
  exact ⟨_, _, _, P.1, P.2.1⟩)
theorem st_way (a b i : Int32) : stG 0 4 132 [.ref 7, .int a, .int b, .int i] 5 290 [.ref 81, .int a, .int b, .int i] := stG_of (fun A B TX hA hB hn hc => by
  obtain ⟨r, P⟩ := p_way (B := B) (TX := TX) hA a b i
  exact ⟨_, _, _, P.1, P.2.1⟩)
theorem st_rooms (w : Int32) : stG 0 2 134 [.ref 7, .int w] 6 292 [.ref 81, .int w] := stG_of (fun A B TX hA hB hn hc => by
  obtain ⟨r, P⟩ := p_rooms (B := B) (TX := TX) hA w
  exact ⟨_, _, _, P.1, P.2.1⟩)
theorem st_room (c : Int32) : stG 0 2 136 [.ref 7, .int c] 6 291 [.ref 81, .int c] := stG_of (fun A B TX hA hB hn hc => by
  obtain ⟨r, P⟩ := p_room (B := B) (TX := TX) hA c
  exact ⟨_, _, _, P.1, P.2.1⟩)
theorem st_work (c v : Int32) : stG 0 2 137 [.ref 7, .int c, .int v] 3 294 [.ref 81, .int c, .int v] := stG_of (fun A B TX hA hB hn hc => by
  obtain ⟨r, A', P⟩ := p_work (B := B) (TX := TX) hA c v
  exact ⟨_, _, _, P.1, P.2.1⟩)
theorem st_dark (c v : Int32) : stG 0 2 139 [.ref 7, .int c, .int v] 3 296 [.ref 81, .int c, .int v] := stG_of (fun A B TX hA hB hn hc => by
  obtain ⟨r, A', P⟩ := p_dark (B := B) (TX := TX) hA c v
  exact ⟨_, _, _, P.1, P.2.1⟩)
theorem st_best (v : Int32) (hv : v = nI 0 ∨ v = nI 1) : stG 30 4 140 [.ref 7, .int v] 6 297 [.ref 81, .int v] := stG_of (fun A B TX hA hB hn hc => by
  obtain ⟨r, P⟩ := p_best (B := B) (TX := TX) hA v hv
  exact ⟨_, _, _, P.1, P.2.1⟩)
theorem st_lit (v : Int32) : stG 1 4 143 [.ref 7, .int v] 8 300 [.ref 81, .int v] := stG_of (fun A B TX hA hB hn hc => by
  obtain ⟨r, P⟩ := p_lit (B := B) (TX := TX) hA v
  exact ⟨_, _, _, P.1, P.2.1⟩)
theorem st_seen (c v : Int32) : stG 0 2 145 [.ref 7, .int c, .int v] 3 303 [.ref 81, .int c, .int v] := stG_of (fun A B TX hA hB hn hc => by
  obtain ⟨r, A', P⟩ := p_seen (B := B) (TX := TX) hA c v
  exact ⟨_, _, _, P.1, P.2.1⟩)
theorem st_fits (w : Int32) : stG 480 5 146 [.ref 7, .int w] 6 304 [.ref 81, .int w] := stG_of (fun A B TX hA hB hn hc => by
  obtain ⟨r, P⟩ := p_fits (B := B) (TX := TX) hA w
  exact ⟨_, _, _, P.1, P.2.1⟩)
theorem st_ask : stG 960 5 149 [.ref 7] 6 306 [.ref 81] := stG_of (fun A B TX hA hB hn hc => by
  obtain ⟨r, P⟩ := p_ask (B := B) (TX := TX) hA
  exact ⟨_, _, _, P.1, P.2.1⟩)
theorem st_seats (v z : Int32) : stG 1 5 152 [.ref 7, .int v, .int z] 8 307 [.ref 81, .int v, .int z] := stG_of (fun A B TX hA hB hn hc => by
  obtain ⟨r, P⟩ := p_seats (B := B) (TX := TX) hA v z
  exact ⟨_, _, _, P.1, P.2.1⟩)
theorem st_flood (v : Int32) : stG 0 2 160 [.ref 7, .int v] 3 309 [.ref 81, .int v] := stG_of (fun A B TX hA hB hn hc => by
  obtain ⟨r, P⟩ := p_flood (B := B) (TX := TX) hA v
  exact ⟨_, _, _, P.1, P.2.1⟩)
theorem st_wet (c : Int32) : stG 0 3 162 [.ref 7, .int c] 3 312 [.ref 81, .int c] := stG_of (fun A B TX hA hB hn hc => by
  obtain ⟨r, P⟩ := p_wet (B := B) (TX := TX) hA c
  exact ⟨_, _, _, P.1, P.2.1⟩)
theorem st_gain (m v : Int32) : stG 0 1 163 [.ref 7, .int m, .int v] 1 313 [.ref 81, .int m, .int v] := stG_of (fun A B TX hA hB hn hc => by
  obtain ⟨r, A', P⟩ := p_gain (B := B) (TX := TX) hA m v
  exact ⟨_, _, _, P.1, P.2.1⟩)
theorem st_read (c v : Int32) : stG 0 2 168 [.ref 7, .int c, .int v] 3 318 [.ref 81, .int c, .int v] := stG_of (fun A B TX hA hB hn hc => by
  obtain ⟨r, A', P⟩ := p_read (B := B) (TX := TX) hA c v
  exact ⟨_, _, _, P.1, P.2.1⟩)
theorem st_whose : stG 4 4 169 [.ref 7] 5 319 [.ref 81] := stG_of (fun A B TX hA hB hn hc => by
  obtain ⟨r, P⟩ := p_whose (B := B) (TX := TX) hA
  exact ⟨_, _, _, P.1, P.2.1⟩)
theorem st_till (v : Int32) : stG 0 2 170 [.ref 7, .int v] 1 285 [.ref 81, .int v] := stG_of (fun A B TX hA hB hn hc => by
  obtain ⟨r, P⟩ := p_till (B := B) (TX := TX) hA v
  exact ⟨_, _, _, P.1, P.2.1⟩)
theorem st_brightest : stG 1 4 171 [.ref 7] 7 302 [.ref 81] := stG_of (fun A B TX hA hB hn hc => by
  obtain ⟨r, P⟩ := p_brightest (B := B) (TX := TX) hA
  exact ⟨_, _, _, P.1, P.2.1⟩)
theorem st_wildest : stG 0 0 172 [.ref 7] 1 282 [.ref 81] := stG_of (fun A B TX hA hB hn hc => by
  obtain ⟨r, P⟩ := p_wildest (B := B) (TX := TX) hA
  exact ⟨_, _, _, P.1, P.2.1⟩)
theorem st_lonely : stG 0 4 173 [.ref 7] 6 283 [.ref 81] := stG_of (fun A B TX hA hB hn hc => by
  obtain ⟨r, P⟩ := p_lonely (B := B) (TX := TX) hA
  exact ⟨_, _, _, P.1, P.2.1⟩)
theorem st_ledger (b : Int32) : stG 0 1 175 [.ref 7, .int b] 2 281 [.ref 81, .int b] := stG_of (fun A B TX hA hB hn hc => by
  obtain ⟨r, P⟩ := p_ledger (B := B) (TX := TX) hA b
  exact ⟨_, _, _, P.1, P.2.1⟩)
theorem st_image : stG 0 2 176 [.ref 7] 1 320 [.ref 81] := stG_of (fun A B TX hA hB hn hc => by
  obtain ⟨r, P⟩ := p_image (B := B) (TX := TX) hA
  exact ⟨_, _, _, P.1, P.2.1⟩)
theorem st_back : stG 1 2 179 [.ref 7] 1 321 [.ref 81] := stG_of (fun A B TX hA hB hn hc => by
  obtain ⟨r, P1, P2, _⟩ := p_back (TX := TX) hA hB hn
  exact ⟨_, _, _, P1, P2⟩)
def Bd (σ : mvSt) : Prop := σ.1.1 - 7 ≤ 600000 ∧ σ.1.2.1 ≤ 7302250
section LW
variable {L t i : Nat} {lt rt rp : Option Nat} {sw : Bool} {h : Nat → Nat → Int32} {gl : Nat → Nat → Int64} {R : Nat} {A B : Nat → Int32} {TX : Nat → Txt} {b : Nat → Nat} {k : Nat} {xs : Nat → Int32}
/-- the place x of the law is reached: it ends well -/
def wl (L i x : Nat) (σ : mvSt) : Prop := ∃ σ', avA 84 0 x [.ref 0, .ref 7, .ref 81, .int (nI i)] [] σ (some (.int (nI 1)), σ') ∧ Bd σ'
def nxW (L i R : Nat) (xs : Nat → Int32) : Prop := ∀ (t : Nat) (lt rt rp : Option Nat) (sw : Bool) (h : Nat → Nat → Int32) (gl : Nat → Nat → Int64) (R' : Nat) (A B : Nat → Int32) (TX : Nat → Txt) (b : Nat → Nat) (k : Nat), GG A B TX R' t lt b k h → h 0 = xs → R' ≤ R + 1440 → wl L i 1472 (sX L t lt rt rp sw h gl)
theorem lc_0 (hi : i + 6 ≤ L) (hL : L ≤ 3072) (G : GG A B TX R t lt b k h) (hx : h 0 = xs) (hR : R + 1440 < 67108864) (nx : nxW L i R xs) : wl L i 232 (sX L t lt rt rp sw h gl) := by
  obtain ⟨v, t', lt', rt', rp', sw', h1, gl1, h2, gl2, R', A', B', TX', b', k', c1, c2, z1, z2, G', rr⟩ := (st_cell (xs (i + 1)) (xs (i + 2))) L t lt rt rp sw h gl R A B TX b k G (by omega)
  obtain ⟨σ', N, bd⟩ := nx t' lt' rt' rp' sw' h2 gl2 R' A' B' TX' b' k' G' (z2.trans hx) (by omega)
  refine ⟨σ', ?_, bd⟩
  refine a_aload_1 rfl rfl ?_
  refine a_aload_0 rfl rfl ?_
  refine a_iload_3 rfl rfl ?_
  refine a_iconst (v := (nI 1)) rfl rfl rfl ?_
  refine a_iaddN rfl rfl ?_
  refine a_iald rfl rfl (Or.inr rfl) rfl (by omega) (by omega) ?_
  refine a_as (y := xs (i + 1)) (congrFun hx (i + 1)) ?_
  refine a_aload_0 rfl rfl ?_
  refine a_iload_3 rfl rfl ?_
  refine a_iconst (v := (nI 2)) rfl rfl rfl ?_
  refine a_iaddN rfl rfl ?_
  refine a_iald rfl rfl (Or.inr rfl) rfl (by omega) (by omega) ?_
  refine a_as (y := xs (i + 2)) (congrFun hx (i + 2)) ?_
  refine a_virtI rfl rfl (c1) (Nat.le_of_ble_eq_true rfl) ⟨rfl, rfl, rfl, rfl⟩ rfl rfl rfl (Nat.le_of_ble_eq_true rfl) rfl rfl ?_
  refine a_aload_2 rfl rfl ?_
  refine a_aload_0 rfl rfl ?_
  refine a_iload_3 rfl rfl ?_
  refine a_iconst (v := (nI 1)) rfl rfl rfl ?_
  refine a_iaddN rfl rfl ?_
  refine a_iald rfl rfl (Or.inr rfl) rfl (by omega) (by omega) ?_
  refine a_as (y := xs (i + 1)) (congrFun (z1.trans hx) (i + 1)) ?_
  refine a_aload_0 rfl rfl ?_
  refine a_iload_3 rfl rfl ?_
  refine a_iconst (v := (nI 2)) rfl rfl rfl ?_
  refine a_iaddN rfl rfl ?_
  refine a_iald rfl rfl (Or.inr rfl) rfl (by omega) (by omega) ?_
  refine a_as (y := xs (i + 2)) (congrFun (z1.trans hx) (i + 2)) ?_
  refine a_virtI rfl rfl (c2) (Nat.le_of_ble_eq_true rfl) ⟨rfl, rfl, rfl, rfl⟩ rfl rfl rfl (Nat.le_of_ble_eq_true rfl) rfl rfl ?_
  refine a_cmp_eq rfl rfl rfl (fun _ => ?_) (fun c_260 => by first | exact absurd rfl c_260 | exact absurd c_260 rfl)
  exact N
theorem lc_1 (hi : i + 6 ≤ L) (hL : L ≤ 3072) (G : GG A B TX R t lt b k h) (hx : h 0 = xs) (hR : R + 1440 < 67108864) (nx : nxW L i R xs) : wl L i 265 (sX L t lt rt rp sw h gl) := by
  obtain ⟨v, t', lt', rt', rp', sw', h1, gl1, h2, gl2, R', A', B', TX', b', k', c1, c2, z1, z2, G', rr⟩ := (st_height (xs (i + 1)) (xs (i + 2))) L t lt rt rp sw h gl R A B TX b k G (by omega)
  obtain ⟨σ', N, bd⟩ := nx t' lt' rt' rp' sw' h2 gl2 R' A' B' TX' b' k' G' (z2.trans hx) (by omega)
  refine ⟨σ', ?_, bd⟩
  refine a_aload_1 rfl rfl ?_
  refine a_aload_0 rfl rfl ?_
  refine a_iload_3 rfl rfl ?_
  refine a_iconst (v := (nI 1)) rfl rfl rfl ?_
  refine a_iaddN rfl rfl ?_
  refine a_iald rfl rfl (Or.inr rfl) rfl (by omega) (by omega) ?_
  refine a_as (y := xs (i + 1)) (congrFun hx (i + 1)) ?_
  refine a_aload_0 rfl rfl ?_
  refine a_iload_3 rfl rfl ?_
  refine a_iconst (v := (nI 2)) rfl rfl rfl ?_
  refine a_iaddN rfl rfl ?_
  refine a_iald rfl rfl (Or.inr rfl) rfl (by omega) (by omega) ?_
  refine a_as (y := xs (i + 2)) (congrFun hx (i + 2)) ?_
  refine a_virtI rfl rfl (c1) (Nat.le_of_ble_eq_true rfl) ⟨rfl, rfl, rfl, rfl⟩ rfl rfl rfl (Nat.le_of_ble_eq_true rfl) rfl rfl ?_
  refine a_aload_2 rfl rfl ?_
  refine a_aload_0 rfl rfl ?_
  refine a_iload_3 rfl rfl ?_
  refine a_iconst (v := (nI 1)) rfl rfl rfl ?_
  refine a_iaddN rfl rfl ?_
  refine a_iald rfl rfl (Or.inr rfl) rfl (by omega) (by omega) ?_
  refine a_as (y := xs (i + 1)) (congrFun (z1.trans hx) (i + 1)) ?_
  refine a_aload_0 rfl rfl ?_
  refine a_iload_3 rfl rfl ?_
  refine a_iconst (v := (nI 2)) rfl rfl rfl ?_
  refine a_iaddN rfl rfl ?_
  refine a_iald rfl rfl (Or.inr rfl) rfl (by omega) (by omega) ?_
  refine a_as (y := xs (i + 2)) (congrFun (z1.trans hx) (i + 2)) ?_
  refine a_virtI rfl rfl (c2) (Nat.le_of_ble_eq_true rfl) ⟨rfl, rfl, rfl, rfl⟩ rfl rfl rfl (Nat.le_of_ble_eq_true rfl) rfl rfl ?_
  refine a_cmp_eq rfl rfl rfl (fun _ => ?_) (fun c_293 => by first | exact absurd rfl c_293 | exact absurd c_293 rfl)
  exact N
theorem lc_2 (hi : i + 6 ≤ L) (hL : L ≤ 3072) (G : GG A B TX R t lt b k h) (hx : h 0 = xs) (hR : R + 1440 < 67108864) (nx : nxW L i R xs) : wl L i 298 (sX L t lt rt rp sw h gl) := by
  obtain ⟨v, t', lt', rt', rp', sw', h1, gl1, h2, gl2, R', A', B', TX', b', k', c1, c2, z1, z2, G', rr⟩ := (st_beast (xs (i + 1)) (xs (i + 2))) L t lt rt rp sw h gl R A B TX b k G (by omega)
  obtain ⟨σ', N, bd⟩ := nx t' lt' rt' rp' sw' h2 gl2 R' A' B' TX' b' k' G' (z2.trans hx) (by omega)
  refine ⟨σ', ?_, bd⟩
  refine a_aload_1 rfl rfl ?_
  refine a_aload_0 rfl rfl ?_
  refine a_iload_3 rfl rfl ?_
  refine a_iconst (v := (nI 1)) rfl rfl rfl ?_
  refine a_iaddN rfl rfl ?_
  refine a_iald rfl rfl (Or.inr rfl) rfl (by omega) (by omega) ?_
  refine a_as (y := xs (i + 1)) (congrFun hx (i + 1)) ?_
  refine a_aload_0 rfl rfl ?_
  refine a_iload_3 rfl rfl ?_
  refine a_iconst (v := (nI 2)) rfl rfl rfl ?_
  refine a_iaddN rfl rfl ?_
  refine a_iald rfl rfl (Or.inr rfl) rfl (by omega) (by omega) ?_
  refine a_as (y := xs (i + 2)) (congrFun hx (i + 2)) ?_
  refine a_virtI rfl rfl (c1) (Nat.le_of_ble_eq_true rfl) ⟨rfl, rfl, rfl, rfl⟩ rfl rfl rfl (Nat.le_of_ble_eq_true rfl) rfl rfl ?_
  refine a_aload_2 rfl rfl ?_
  refine a_aload_0 rfl rfl ?_
  refine a_iload_3 rfl rfl ?_
  refine a_iconst (v := (nI 1)) rfl rfl rfl ?_
  refine a_iaddN rfl rfl ?_
  refine a_iald rfl rfl (Or.inr rfl) rfl (by omega) (by omega) ?_
  refine a_as (y := xs (i + 1)) (congrFun (z1.trans hx) (i + 1)) ?_
  refine a_aload_0 rfl rfl ?_
  refine a_iload_3 rfl rfl ?_
  refine a_iconst (v := (nI 2)) rfl rfl rfl ?_
  refine a_iaddN rfl rfl ?_
  refine a_iald rfl rfl (Or.inr rfl) rfl (by omega) (by omega) ?_
  refine a_as (y := xs (i + 2)) (congrFun (z1.trans hx) (i + 2)) ?_
  refine a_virtI rfl rfl (c2) (Nat.le_of_ble_eq_true rfl) ⟨rfl, rfl, rfl, rfl⟩ rfl rfl rfl (Nat.le_of_ble_eq_true rfl) rfl rfl ?_
  refine a_cmp_eq rfl rfl rfl (fun _ => ?_) (fun c_326 => by first | exact absurd rfl c_326 | exact absurd c_326 rfl)
  exact N
theorem lc_3 (hi : i + 6 ≤ L) (hL : L ≤ 3072) (G : GG A B TX R t lt b k h) (hx : h 0 = xs) (hR : R + 1440 < 67108864) (nx : nxW L i R xs) : wl L i 331 (sX L t lt rt rp sw h gl) := by
  obtain ⟨v, t', lt', rt', rp', sw', h1, gl1, h2, gl2, R', A', B', TX', b', k', c1, c2, z1, z2, G', rr⟩ := (st_feed (xs (i + 1)) (xs (i + 2)) (xs (i + 3)) (xs (i + 4)) (xs (i + 5))) L t lt rt rp sw h gl R A B TX b k G (by omega)
  obtain ⟨σ', N, bd⟩ := nx t' lt' rt' rp' sw' h2 gl2 R' A' B' TX' b' k' G' (z2.trans hx) (by omega)
  refine ⟨σ', ?_, bd⟩
  refine a_aload_1 rfl rfl ?_
  refine a_aload_0 rfl rfl ?_
  refine a_iload_3 rfl rfl ?_
  refine a_iconst (v := (nI 1)) rfl rfl rfl ?_
  refine a_iaddN rfl rfl ?_
  refine a_iald rfl rfl (Or.inr rfl) rfl (by omega) (by omega) ?_
  refine a_as (y := xs (i + 1)) (congrFun hx (i + 1)) ?_
  refine a_aload_0 rfl rfl ?_
  refine a_iload_3 rfl rfl ?_
  refine a_iconst (v := (nI 2)) rfl rfl rfl ?_
  refine a_iaddN rfl rfl ?_
  refine a_iald rfl rfl (Or.inr rfl) rfl (by omega) (by omega) ?_
  refine a_as (y := xs (i + 2)) (congrFun hx (i + 2)) ?_
  refine a_aload_0 rfl rfl ?_
  refine a_iload_3 rfl rfl ?_
  refine a_iconst (v := (nI 3)) rfl rfl rfl ?_
  refine a_iaddN rfl rfl ?_
  refine a_iald rfl rfl (Or.inr rfl) rfl (by omega) (by omega) ?_
  refine a_as (y := xs (i + 3)) (congrFun hx (i + 3)) ?_
  refine a_aload_0 rfl rfl ?_
  refine a_iload_3 rfl rfl ?_
  refine a_iconst (v := (nI 4)) rfl rfl rfl ?_
  refine a_iaddN rfl rfl ?_
  refine a_iald rfl rfl (Or.inr rfl) rfl (by omega) (by omega) ?_
  refine a_as (y := xs (i + 4)) (congrFun hx (i + 4)) ?_
  refine a_aload_0 rfl rfl ?_
  refine a_iload_3 rfl rfl ?_
  refine a_iconst (v := (nI 5)) rfl rfl rfl ?_
  refine a_iaddN rfl rfl ?_
  refine a_iald rfl rfl (Or.inr rfl) rfl (by omega) (by omega) ?_
  refine a_as (y := xs (i + 5)) (congrFun hx (i + 5)) ?_
  refine a_virtI rfl rfl (c1) (Nat.le_of_ble_eq_true rfl) ⟨rfl, rfl, rfl, rfl⟩ rfl rfl rfl (Nat.le_of_ble_eq_true rfl) rfl rfl ?_
  refine a_aload_2 rfl rfl ?_
  refine a_aload_0 rfl rfl ?_
  refine a_iload_3 rfl rfl ?_
  refine a_iconst (v := (nI 1)) rfl rfl rfl ?_
  refine a_iaddN rfl rfl ?_
  refine a_iald rfl rfl (Or.inr rfl) rfl (by omega) (by omega) ?_
  refine a_as (y := xs (i + 1)) (congrFun (z1.trans hx) (i + 1)) ?_
  refine a_aload_0 rfl rfl ?_
  refine a_iload_3 rfl rfl ?_
  refine a_iconst (v := (nI 2)) rfl rfl rfl ?_
  refine a_iaddN rfl rfl ?_
  refine a_iald rfl rfl (Or.inr rfl) rfl (by omega) (by omega) ?_
  refine a_as (y := xs (i + 2)) (congrFun (z1.trans hx) (i + 2)) ?_
  refine a_aload_0 rfl rfl ?_
  refine a_iload_3 rfl rfl ?_
  refine a_iconst (v := (nI 3)) rfl rfl rfl ?_
  refine a_iaddN rfl rfl ?_
  refine a_iald rfl rfl (Or.inr rfl) rfl (by omega) (by omega) ?_
  refine a_as (y := xs (i + 3)) (congrFun (z1.trans hx) (i + 3)) ?_
  refine a_aload_0 rfl rfl ?_
  refine a_iload_3 rfl rfl ?_
  refine a_iconst (v := (nI 4)) rfl rfl rfl ?_
  refine a_iaddN rfl rfl ?_
  refine a_iald rfl rfl (Or.inr rfl) rfl (by omega) (by omega) ?_
  refine a_as (y := xs (i + 4)) (congrFun (z1.trans hx) (i + 4)) ?_
  refine a_aload_0 rfl rfl ?_
  refine a_iload_3 rfl rfl ?_
  refine a_iconst (v := (nI 5)) rfl rfl rfl ?_
  refine a_iaddN rfl rfl ?_
  refine a_iald rfl rfl (Or.inr rfl) rfl (by omega) (by omega) ?_
  refine a_as (y := xs (i + 5)) (congrFun (z1.trans hx) (i + 5)) ?_
  refine a_virtI rfl rfl (c2) (Nat.le_of_ble_eq_true rfl) ⟨rfl, rfl, rfl, rfl⟩ rfl rfl rfl (Nat.le_of_ble_eq_true rfl) rfl rfl ?_
  refine a_cmp_eq rfl rfl rfl (fun _ => ?_) (fun c_389 => by first | exact absurd rfl c_389 | exact absurd c_389 rfl)
  exact N
theorem lc_4 (hi : i + 6 ≤ L) (hL : L ≤ 3072) (G : GG A B TX R t lt b k h) (hx : h 0 = xs) (hR : R + 1440 < 67108864) (nx : nxW L i R xs) : wl L i 394 (sX L t lt rt rp sw h gl) := by
  obtain ⟨v, t', lt', rt', rp', sw', h1, gl1, h2, gl2, R', A', B', TX', b', k', c1, c2, z1, z2, G', rr⟩ := (st_end (xs (i + 1))) L t lt rt rp sw h gl R A B TX b k G (by omega)
  obtain ⟨σ', N, bd⟩ := nx t' lt' rt' rp' sw' h2 gl2 R' A' B' TX' b' k' G' (z2.trans hx) (by omega)
  refine ⟨σ', ?_, bd⟩
  refine a_aload_1 rfl rfl ?_
  refine a_aload_0 rfl rfl ?_
  refine a_iload_3 rfl rfl ?_
  refine a_iconst (v := (nI 1)) rfl rfl rfl ?_
  refine a_iaddN rfl rfl ?_
  refine a_iald rfl rfl (Or.inr rfl) rfl (by omega) (by omega) ?_
  refine a_as (y := xs (i + 1)) (congrFun hx (i + 1)) ?_
  refine a_virtI rfl rfl (c1) (Nat.le_of_ble_eq_true rfl) ⟨rfl, rfl, rfl, rfl⟩ rfl rfl rfl (Nat.le_of_ble_eq_true rfl) rfl rfl ?_
  refine a_aload_2 rfl rfl ?_
  refine a_aload_0 rfl rfl ?_
  refine a_iload_3 rfl rfl ?_
  refine a_iconst (v := (nI 1)) rfl rfl rfl ?_
  refine a_iaddN rfl rfl ?_
  refine a_iald rfl rfl (Or.inr rfl) rfl (by omega) (by omega) ?_
  refine a_as (y := xs (i + 1)) (congrFun (z1.trans hx) (i + 1)) ?_
  refine a_virtI rfl rfl (c2) (Nat.le_of_ble_eq_true rfl) ⟨rfl, rfl, rfl, rfl⟩ rfl rfl rfl (Nat.le_of_ble_eq_true rfl) rfl rfl ?_
  refine a_cmp_eq rfl rfl rfl (fun _ => ?_) (fun c_412 => by first | exact absurd rfl c_412 | exact absurd c_412 rfl)
  exact N
theorem lc_5 (hi : i + 6 ≤ L) (hL : L ≤ 3072) (G : GG A B TX R t lt b k h) (hx : h 0 = xs) (hR : R + 1440 < 67108864) (nx : nxW L i R xs) : wl L i 417 (sX L t lt rt rp sw h gl) := by
  obtain ⟨v, t', lt', rt', rp', sw', h1, gl1, h2, gl2, R', A', B', TX', b', k', c1, c2, z1, z2, G', rr⟩ := (st_text) L t lt rt rp sw h gl R A B TX b k G (by omega)
  obtain ⟨σ', N, bd⟩ := nx t' lt' rt' rp' sw' h2 gl2 R' A' B' TX' b' k' G' (z2.trans hx) (by omega)
  refine ⟨σ', ?_, bd⟩
  refine a_aload_1 rfl rfl ?_
  refine a_virtI rfl rfl (c1) (Nat.le_of_ble_eq_true rfl) ⟨rfl, rfl, rfl, rfl⟩ rfl rfl rfl (Nat.le_of_ble_eq_true rfl) rfl rfl ?_
  refine a_aload_2 rfl rfl ?_
  refine a_virtI rfl rfl (c2) (Nat.le_of_ble_eq_true rfl) ⟨rfl, rfl, rfl, rfl⟩ rfl rfl rfl (Nat.le_of_ble_eq_true rfl) rfl rfl ?_
  refine a_cmp_eq rfl rfl rfl (fun _ => ?_) (fun c_425 => by first | exact absurd rfl c_425 | exact absurd c_425 rfl)
  exact N
theorem lc_6 (hi : i + 6 ≤ L) (hL : L ≤ 3072) (G : GG A B TX R t lt b k h) (hx : h 0 = xs) (hR : R + 1440 < 67108864) (nx : nxW L i R xs) : wl L i 430 (sX L t lt rt rp sw h gl) := by
  obtain ⟨v, t', lt', rt', rp', sw', h1, gl1, h2, gl2, R', A', B', TX', b', k', c1, c2, z1, z2, G', rr⟩ := (st_fault (xs (i + 1))) L t lt rt rp sw h gl R A B TX b k G (by omega)
  obtain ⟨σ', N, bd⟩ := nx t' lt' rt' rp' sw' h2 gl2 R' A' B' TX' b' k' G' (z2.trans hx) (by omega)
  refine ⟨σ', ?_, bd⟩
  refine a_aload_1 rfl rfl ?_
  refine a_aload_0 rfl rfl ?_
  refine a_iload_3 rfl rfl ?_
  refine a_iconst (v := (nI 1)) rfl rfl rfl ?_
  refine a_iaddN rfl rfl ?_
  refine a_iald rfl rfl (Or.inr rfl) rfl (by omega) (by omega) ?_
  refine a_as (y := xs (i + 1)) (congrFun hx (i + 1)) ?_
  refine a_virtI rfl rfl (c1) (Nat.le_of_ble_eq_true rfl) ⟨rfl, rfl, rfl, rfl⟩ rfl rfl rfl (Nat.le_of_ble_eq_true rfl) rfl rfl ?_
  refine a_aload_2 rfl rfl ?_
  refine a_aload_0 rfl rfl ?_
  refine a_iload_3 rfl rfl ?_
  refine a_iconst (v := (nI 1)) rfl rfl rfl ?_
  refine a_iaddN rfl rfl ?_
  refine a_iald rfl rfl (Or.inr rfl) rfl (by omega) (by omega) ?_
  refine a_as (y := xs (i + 1)) (congrFun (z1.trans hx) (i + 1)) ?_
  refine a_virtI rfl rfl (c2) (Nat.le_of_ble_eq_true rfl) ⟨rfl, rfl, rfl, rfl⟩ rfl rfl rfl (Nat.le_of_ble_eq_true rfl) rfl rfl ?_
  refine a_cmp_eq rfl rfl rfl (fun _ => ?_) (fun c_448 => by first | exact absurd rfl c_448 | exact absurd c_448 rfl)
  exact N
theorem lc_7 (hi : i + 6 ≤ L) (hL : L ≤ 3072) (G : GG A B TX R t lt b k h) (hx : h 0 = xs) (hR : R + 1440 < 67108864) (nx : nxW L i R xs) : wl L i 453 (sX L t lt rt rp sw h gl) := by
  obtain ⟨v, t', lt', rt', rp', sw', h1, gl1, h2, gl2, R', A', B', TX', b', k', c1, c2, z1, z2, G', rr⟩ := (st_by (xs (i + 1))) L t lt rt rp sw h gl R A B TX b k G (by omega)
  obtain ⟨σ', N, bd⟩ := nx t' lt' rt' rp' sw' h2 gl2 R' A' B' TX' b' k' G' (z2.trans hx) (by omega)
  refine ⟨σ', ?_, bd⟩
  refine a_aload_1 rfl rfl ?_
  refine a_aload_0 rfl rfl ?_
  refine a_iload_3 rfl rfl ?_
  refine a_iconst (v := (nI 1)) rfl rfl rfl ?_
  refine a_iaddN rfl rfl ?_
  refine a_iald rfl rfl (Or.inr rfl) rfl (by omega) (by omega) ?_
  refine a_as (y := xs (i + 1)) (congrFun hx (i + 1)) ?_
  refine a_virtI rfl rfl (c1) (Nat.le_of_ble_eq_true rfl) ⟨rfl, rfl, rfl, rfl⟩ rfl rfl rfl (Nat.le_of_ble_eq_true rfl) rfl rfl ?_
  refine a_aload_2 rfl rfl ?_
  refine a_aload_0 rfl rfl ?_
  refine a_iload_3 rfl rfl ?_
  refine a_iconst (v := (nI 1)) rfl rfl rfl ?_
  refine a_iaddN rfl rfl ?_
  refine a_iald rfl rfl (Or.inr rfl) rfl (by omega) (by omega) ?_
  refine a_as (y := xs (i + 1)) (congrFun (z1.trans hx) (i + 1)) ?_
  refine a_virtI rfl rfl (c2) (Nat.le_of_ble_eq_true rfl) ⟨rfl, rfl, rfl, rfl⟩ rfl rfl rfl (Nat.le_of_ble_eq_true rfl) rfl rfl ?_
  refine a_cmp_eq rfl rfl rfl (fun _ => ?_) (fun c_471 => by first | exact absurd rfl c_471 | exact absurd c_471 rfl)
  exact N
theorem lc_8 (hi : i + 6 ≤ L) (hL : L ≤ 3072) (G : GG A B TX R t lt b k h) (hx : h 0 = xs) (hR : R + 1440 < 67108864) (nx : nxW L i R xs) : wl L i 476 (sX L t lt rt rp sw h gl) := by
  obtain ⟨v, t', lt', rt', rp', sw', h1, gl1, h2, gl2, R', A', B', TX', b', k', c1, c2, z1, z2, G', rr⟩ := (st_lodge (xs (i + 1))) L t lt rt rp sw h gl R A B TX b k G (by omega)
  obtain ⟨σ', N, bd⟩ := nx t' lt' rt' rp' sw' h2 gl2 R' A' B' TX' b' k' G' (z2.trans hx) (by omega)
  refine ⟨σ', ?_, bd⟩
  refine a_aload_1 rfl rfl ?_
  refine a_aload_0 rfl rfl ?_
  refine a_iload_3 rfl rfl ?_
  refine a_iconst (v := (nI 1)) rfl rfl rfl ?_
  refine a_iaddN rfl rfl ?_
  refine a_iald rfl rfl (Or.inr rfl) rfl (by omega) (by omega) ?_
  refine a_as (y := xs (i + 1)) (congrFun hx (i + 1)) ?_
  refine a_virtI rfl rfl (c1) (Nat.le_of_ble_eq_true rfl) ⟨rfl, rfl, rfl, rfl⟩ rfl rfl rfl (Nat.le_of_ble_eq_true rfl) rfl rfl ?_
  refine a_aload_2 rfl rfl ?_
  refine a_aload_0 rfl rfl ?_
  refine a_iload_3 rfl rfl ?_
  refine a_iconst (v := (nI 1)) rfl rfl rfl ?_
  refine a_iaddN rfl rfl ?_
  refine a_iald rfl rfl (Or.inr rfl) rfl (by omega) (by omega) ?_
  refine a_as (y := xs (i + 1)) (congrFun (z1.trans hx) (i + 1)) ?_
  refine a_virtI rfl rfl (c2) (Nat.le_of_ble_eq_true rfl) ⟨rfl, rfl, rfl, rfl⟩ rfl rfl rfl (Nat.le_of_ble_eq_true rfl) rfl rfl ?_
  refine a_cmp_eq rfl rfl rfl (fun _ => ?_) (fun c_494 => by first | exact absurd rfl c_494 | exact absurd c_494 rfl)
  exact N
theorem lc_9 (hi : i + 6 ≤ L) (hL : L ≤ 3072) (G : GG A B TX R t lt b k h) (hx : h 0 = xs) (hR : R + 1440 < 67108864) (nx : nxW L i R xs) : wl L i 499 (sX L t lt rt rp sw h gl) := by
  obtain ⟨v, t', lt', rt', rp', sw', h1, gl1, h2, gl2, R', A', B', TX', b', k', c1, c2, z1, z2, G', rr⟩ := (st_out) L t lt rt rp sw h gl R A B TX b k G (by omega)
  obtain ⟨σ', N, bd⟩ := nx t' lt' rt' rp' sw' h2 gl2 R' A' B' TX' b' k' G' (z2.trans hx) (by omega)
  refine ⟨σ', ?_, bd⟩
  refine a_aload_1 rfl rfl ?_
  refine a_virtI rfl rfl (c1) (Nat.le_of_ble_eq_true rfl) ⟨rfl, rfl, rfl, rfl⟩ rfl rfl rfl (Nat.le_of_ble_eq_true rfl) rfl rfl ?_
  refine a_aload_2 rfl rfl ?_
  refine a_virtI rfl rfl (c2) (Nat.le_of_ble_eq_true rfl) ⟨rfl, rfl, rfl, rfl⟩ rfl rfl rfl (Nat.le_of_ble_eq_true rfl) rfl rfl ?_
  refine a_cmp_eq rfl rfl rfl (fun _ => ?_) (fun c_507 => by first | exact absurd rfl c_507 | exact absurd c_507 rfl)
  exact N
theorem lc_10 (hi : i + 6 ≤ L) (hL : L ≤ 3072) (G : GG A B TX R t lt b k h) (hx : h 0 = xs) (hR : R + 1440 < 67108864) (nx : nxW L i R xs) : wl L i 512 (sX L t lt rt rp sw h gl) := by
  obtain ⟨v, t', lt', rt', rp', sw', h1, gl1, h2, gl2, R', A', B', TX', b', k', c1, c2, z1, z2, G', rr⟩ := (st_lead (xs (i + 1)) (xs (i + 2))) L t lt rt rp sw h gl R A B TX b k G (by omega)
  obtain ⟨σ', N, bd⟩ := nx t' lt' rt' rp' sw' h2 gl2 R' A' B' TX' b' k' G' (z2.trans hx) (by omega)
  refine ⟨σ', ?_, bd⟩
  refine a_aload_1 rfl rfl ?_
  refine a_aload_0 rfl rfl ?_
  refine a_iload_3 rfl rfl ?_
  refine a_iconst (v := (nI 1)) rfl rfl rfl ?_
  refine a_iaddN rfl rfl ?_
  refine a_iald rfl rfl (Or.inr rfl) rfl (by omega) (by omega) ?_
  refine a_as (y := xs (i + 1)) (congrFun hx (i + 1)) ?_
  refine a_aload_0 rfl rfl ?_
  refine a_iload_3 rfl rfl ?_
  refine a_iconst (v := (nI 2)) rfl rfl rfl ?_
  refine a_iaddN rfl rfl ?_
  refine a_iald rfl rfl (Or.inr rfl) rfl (by omega) (by omega) ?_
  refine a_as (y := xs (i + 2)) (congrFun hx (i + 2)) ?_
  refine a_virtI rfl rfl (c1) (Nat.le_of_ble_eq_true rfl) ⟨rfl, rfl, rfl, rfl⟩ rfl rfl rfl (Nat.le_of_ble_eq_true rfl) rfl rfl ?_
  refine a_aload_2 rfl rfl ?_
  refine a_aload_0 rfl rfl ?_
  refine a_iload_3 rfl rfl ?_
  refine a_iconst (v := (nI 1)) rfl rfl rfl ?_
  refine a_iaddN rfl rfl ?_
  refine a_iald rfl rfl (Or.inr rfl) rfl (by omega) (by omega) ?_
  refine a_as (y := xs (i + 1)) (congrFun (z1.trans hx) (i + 1)) ?_
  refine a_aload_0 rfl rfl ?_
  refine a_iload_3 rfl rfl ?_
  refine a_iconst (v := (nI 2)) rfl rfl rfl ?_
  refine a_iaddN rfl rfl ?_
  refine a_iald rfl rfl (Or.inr rfl) rfl (by omega) (by omega) ?_
  refine a_as (y := xs (i + 2)) (congrFun (z1.trans hx) (i + 2)) ?_
  refine a_virtI rfl rfl (c2) (Nat.le_of_ble_eq_true rfl) ⟨rfl, rfl, rfl, rfl⟩ rfl rfl rfl (Nat.le_of_ble_eq_true rfl) rfl rfl ?_
  refine a_cmp_eq rfl rfl rfl (fun _ => ?_) (fun c_540 => by first | exact absurd rfl c_540 | exact absurd c_540 rfl)
  exact N
theorem lc_11 (hi : i + 6 ≤ L) (hL : L ≤ 3072) (G : GG A B TX R t lt b k h) (hx : h 0 = xs) (hR : R + 1440 < 67108864) (nx : nxW L i R xs) : wl L i 545 (sX L t lt rt rp sw h gl) := by
  obtain ⟨v, t', lt', rt', rp', sw', h1, gl1, h2, gl2, R', A', B', TX', b', k', c1, c2, z1, z2, G', rr⟩ := (st_hour (xs (i + 1))) L t lt rt rp sw h gl R A B TX b k G (by omega)
  obtain ⟨σ', N, bd⟩ := nx t' lt' rt' rp' sw' h2 gl2 R' A' B' TX' b' k' G' (z2.trans hx) (by omega)
  refine ⟨σ', ?_, bd⟩
  refine a_aload_1 rfl rfl ?_
  refine a_aload_0 rfl rfl ?_
  refine a_iload_3 rfl rfl ?_
  refine a_iconst (v := (nI 1)) rfl rfl rfl ?_
  refine a_iaddN rfl rfl ?_
  refine a_iald rfl rfl (Or.inr rfl) rfl (by omega) (by omega) ?_
  refine a_as (y := xs (i + 1)) (congrFun hx (i + 1)) ?_
  refine a_virtI rfl rfl (c1) (Nat.le_of_ble_eq_true rfl) ⟨rfl, rfl, rfl, rfl⟩ rfl rfl rfl (Nat.le_of_ble_eq_true rfl) rfl rfl ?_
  refine a_aload_2 rfl rfl ?_
  refine a_aload_0 rfl rfl ?_
  refine a_iload_3 rfl rfl ?_
  refine a_iconst (v := (nI 1)) rfl rfl rfl ?_
  refine a_iaddN rfl rfl ?_
  refine a_iald rfl rfl (Or.inr rfl) rfl (by omega) (by omega) ?_
  refine a_as (y := xs (i + 1)) (congrFun (z1.trans hx) (i + 1)) ?_
  refine a_virtI rfl rfl (c2) (Nat.le_of_ble_eq_true rfl) ⟨rfl, rfl, rfl, rfl⟩ rfl rfl rfl (Nat.le_of_ble_eq_true rfl) rfl rfl ?_
  refine a_cmp_eq rfl rfl rfl (fun _ => ?_) (fun c_563 => by first | exact absurd rfl c_563 | exact absurd c_563 rfl)
  exact N
theorem lc_12 (hi : i + 6 ≤ L) (hL : L ≤ 3072) (G : GG A B TX R t lt b k h) (hx : h 0 = xs) (hR : R + 1440 < 67108864) (nx : nxW L i R xs) : wl L i 568 (sX L t lt rt rp sw h gl) := by
  obtain ⟨v, t', lt', rt', rp', sw', h1, gl1, h2, gl2, R', A', B', TX', b', k', c1, c2, z1, z2, G', rr⟩ := (st_played (xs (i + 1))) L t lt rt rp sw h gl R A B TX b k G (by omega)
  obtain ⟨σ', N, bd⟩ := nx t' lt' rt' rp' sw' h2 gl2 R' A' B' TX' b' k' G' (z2.trans hx) (by omega)
  refine ⟨σ', ?_, bd⟩
  refine a_aload_1 rfl rfl ?_
  refine a_aload_0 rfl rfl ?_
  refine a_iload_3 rfl rfl ?_
  refine a_iconst (v := (nI 1)) rfl rfl rfl ?_
  refine a_iaddN rfl rfl ?_
  refine a_iald rfl rfl (Or.inr rfl) rfl (by omega) (by omega) ?_
  refine a_as (y := xs (i + 1)) (congrFun hx (i + 1)) ?_
  refine a_virtI rfl rfl (c1) (Nat.le_of_ble_eq_true rfl) ⟨rfl, rfl, rfl, rfl⟩ rfl rfl rfl (Nat.le_of_ble_eq_true rfl) rfl rfl ?_
  refine a_aload_2 rfl rfl ?_
  refine a_aload_0 rfl rfl ?_
  refine a_iload_3 rfl rfl ?_
  refine a_iconst (v := (nI 1)) rfl rfl rfl ?_
  refine a_iaddN rfl rfl ?_
  refine a_iald rfl rfl (Or.inr rfl) rfl (by omega) (by omega) ?_
  refine a_as (y := xs (i + 1)) (congrFun (z1.trans hx) (i + 1)) ?_
  refine a_virtI rfl rfl (c2) (Nat.le_of_ble_eq_true rfl) ⟨rfl, rfl, rfl, rfl⟩ rfl rfl rfl (Nat.le_of_ble_eq_true rfl) rfl rfl ?_
  refine a_cmp_eq rfl rfl rfl (fun _ => ?_) (fun c_586 => by first | exact absurd rfl c_586 | exact absurd c_586 rfl)
  exact N
theorem lc_13 (hi : i + 6 ≤ L) (hL : L ≤ 3072) (G : GG A B TX R t lt b k h) (hx : h 0 = xs) (hR : R + 1440 < 67108864) (nx : nxW L i R xs) : wl L i 591 (sX L t lt rt rp sw h gl) := by
  obtain ⟨v, t', lt', rt', rp', sw', h1, gl1, h2, gl2, R', A', B', TX', b', k', c1, c2, z1, z2, G', rr⟩ := (st_years (xs (i + 1)) (xs (i + 2))) L t lt rt rp sw h gl R A B TX b k G (by omega)
  obtain ⟨σ', N, bd⟩ := nx t' lt' rt' rp' sw' h2 gl2 R' A' B' TX' b' k' G' (z2.trans hx) (by omega)
  refine ⟨σ', ?_, bd⟩
  refine a_aload_1 rfl rfl ?_
  refine a_aload_0 rfl rfl ?_
  refine a_iload_3 rfl rfl ?_
  refine a_iconst (v := (nI 1)) rfl rfl rfl ?_
  refine a_iaddN rfl rfl ?_
  refine a_iald rfl rfl (Or.inr rfl) rfl (by omega) (by omega) ?_
  refine a_as (y := xs (i + 1)) (congrFun hx (i + 1)) ?_
  refine a_aload_0 rfl rfl ?_
  refine a_iload_3 rfl rfl ?_
  refine a_iconst (v := (nI 2)) rfl rfl rfl ?_
  refine a_iaddN rfl rfl ?_
  refine a_iald rfl rfl (Or.inr rfl) rfl (by omega) (by omega) ?_
  refine a_as (y := xs (i + 2)) (congrFun hx (i + 2)) ?_
  refine a_virtI rfl rfl (c1) (Nat.le_of_ble_eq_true rfl) ⟨rfl, rfl, rfl, rfl⟩ rfl rfl rfl (Nat.le_of_ble_eq_true rfl) rfl rfl ?_
  refine a_aload_2 rfl rfl ?_
  refine a_aload_0 rfl rfl ?_
  refine a_iload_3 rfl rfl ?_
  refine a_iconst (v := (nI 1)) rfl rfl rfl ?_
  refine a_iaddN rfl rfl ?_
  refine a_iald rfl rfl (Or.inr rfl) rfl (by omega) (by omega) ?_
  refine a_as (y := xs (i + 1)) (congrFun (z1.trans hx) (i + 1)) ?_
  refine a_aload_0 rfl rfl ?_
  refine a_iload_3 rfl rfl ?_
  refine a_iconst (v := (nI 2)) rfl rfl rfl ?_
  refine a_iaddN rfl rfl ?_
  refine a_iald rfl rfl (Or.inr rfl) rfl (by omega) (by omega) ?_
  refine a_as (y := xs (i + 2)) (congrFun (z1.trans hx) (i + 2)) ?_
  refine a_virtI rfl rfl (c2) (Nat.le_of_ble_eq_true rfl) ⟨rfl, rfl, rfl, rfl⟩ rfl rfl rfl (Nat.le_of_ble_eq_true rfl) rfl rfl ?_
  refine a_cmp_eq rfl rfl rfl (fun _ => ?_) (fun c_619 => by first | exact absurd rfl c_619 | exact absurd c_619 rfl)
  exact N
theorem lc_14 (hi : i + 6 ≤ L) (hL : L ≤ 3072) (G : GG A B TX R t lt b k h) (hx : h 0 = xs) (hR : R + 1440 < 67108864) (nx : nxW L i R xs) : wl L i 624 (sX L t lt rt rp sw h gl) := by
  obtain ⟨v, t', lt', rt', rp', sw', h1, gl1, h2, gl2, R', A', B', TX', b', k', c1, c2, z1, z2, G', rr⟩ := (st_undo) L t lt rt rp sw h gl R A B TX b k G (by omega)
  obtain ⟨σ', N, bd⟩ := nx t' lt' rt' rp' sw' h2 gl2 R' A' B' TX' b' k' G' (z2.trans hx) (by omega)
  refine ⟨σ', ?_, bd⟩
  refine a_aload_1 rfl rfl ?_
  refine a_virtI rfl rfl (c1) (Nat.le_of_ble_eq_true rfl) ⟨rfl, rfl, rfl, rfl⟩ rfl rfl rfl (Nat.le_of_ble_eq_true rfl) rfl rfl ?_
  refine a_aload_2 rfl rfl ?_
  refine a_virtI rfl rfl (c2) (Nat.le_of_ble_eq_true rfl) ⟨rfl, rfl, rfl, rfl⟩ rfl rfl rfl (Nat.le_of_ble_eq_true rfl) rfl rfl ?_
  refine a_cmp_eq rfl rfl rfl (fun _ => ?_) (fun c_632 => by first | exact absurd rfl c_632 | exact absurd c_632 rfl)
  exact N
theorem lc_15 (hi : i + 6 ≤ L) (hL : L ≤ 3072) (G : GG A B TX R t lt b k h) (hx : h 0 = xs) (hR : R + 1440 < 67108864) (nx : nxW L i R xs) : wl L i 637 (sX L t lt rt rp sw h gl) := by
  obtain ⟨v, t', lt', rt', rp', sw', h1, gl1, h2, gl2, R', A', B', TX', b', k', c1, c2, z1, z2, G', rr⟩ := (st_of (xs (i + 1)) (xs (i + 2))) L t lt rt rp sw h gl R A B TX b k G (by omega)
  obtain ⟨σ', N, bd⟩ := nx t' lt' rt' rp' sw' h2 gl2 R' A' B' TX' b' k' G' (z2.trans hx) (by omega)
  refine ⟨σ', ?_, bd⟩
  refine a_aload_1 rfl rfl ?_
  refine a_aload_0 rfl rfl ?_
  refine a_iload_3 rfl rfl ?_
  refine a_iconst (v := (nI 1)) rfl rfl rfl ?_
  refine a_iaddN rfl rfl ?_
  refine a_iald rfl rfl (Or.inr rfl) rfl (by omega) (by omega) ?_
  refine a_as (y := xs (i + 1)) (congrFun hx (i + 1)) ?_
  refine a_aload_0 rfl rfl ?_
  refine a_iload_3 rfl rfl ?_
  refine a_iconst (v := (nI 2)) rfl rfl rfl ?_
  refine a_iaddN rfl rfl ?_
  refine a_iald rfl rfl (Or.inr rfl) rfl (by omega) (by omega) ?_
  refine a_as (y := xs (i + 2)) (congrFun hx (i + 2)) ?_
  refine a_virtI rfl rfl (c1) (Nat.le_of_ble_eq_true rfl) ⟨rfl, rfl, rfl, rfl⟩ rfl rfl rfl (Nat.le_of_ble_eq_true rfl) rfl rfl ?_
  refine a_aload_2 rfl rfl ?_
  refine a_aload_0 rfl rfl ?_
  refine a_iload_3 rfl rfl ?_
  refine a_iconst (v := (nI 1)) rfl rfl rfl ?_
  refine a_iaddN rfl rfl ?_
  refine a_iald rfl rfl (Or.inr rfl) rfl (by omega) (by omega) ?_
  refine a_as (y := xs (i + 1)) (congrFun (z1.trans hx) (i + 1)) ?_
  refine a_aload_0 rfl rfl ?_
  refine a_iload_3 rfl rfl ?_
  refine a_iconst (v := (nI 2)) rfl rfl rfl ?_
  refine a_iaddN rfl rfl ?_
  refine a_iald rfl rfl (Or.inr rfl) rfl (by omega) (by omega) ?_
  refine a_as (y := xs (i + 2)) (congrFun (z1.trans hx) (i + 2)) ?_
  refine a_virtI rfl rfl (c2) (Nat.le_of_ble_eq_true rfl) ⟨rfl, rfl, rfl, rfl⟩ rfl rfl rfl (Nat.le_of_ble_eq_true rfl) rfl rfl ?_
  refine a_cmp_eq rfl rfl rfl (fun _ => ?_) (fun c_665 => by first | exact absurd rfl c_665 | exact absurd c_665 rfl)
  exact N
theorem lc_16 (hi : i + 6 ≤ L) (hL : L ≤ 3072) (G : GG A B TX R t lt b k h) (hx : h 0 = xs) (hR : R + 1440 < 67108864) (nx : nxW L i R xs) : wl L i 670 (sX L t lt rt rp sw h gl) := by
  obtain ⟨v, t', lt', rt', rp', sw', h1, gl1, h2, gl2, R', A', B', TX', b', k', c1, c2, z1, z2, G', rr⟩ := (st_ofCell (xs (i + 1)) (xs (i + 2))) L t lt rt rp sw h gl R A B TX b k G (by omega)
  obtain ⟨σ', N, bd⟩ := nx t' lt' rt' rp' sw' h2 gl2 R' A' B' TX' b' k' G' (z2.trans hx) (by omega)
  refine ⟨σ', ?_, bd⟩
  refine a_aload_1 rfl rfl ?_
  refine a_aload_0 rfl rfl ?_
  refine a_iload_3 rfl rfl ?_
  refine a_iconst (v := (nI 1)) rfl rfl rfl ?_
  refine a_iaddN rfl rfl ?_
  refine a_iald rfl rfl (Or.inr rfl) rfl (by omega) (by omega) ?_
  refine a_as (y := xs (i + 1)) (congrFun hx (i + 1)) ?_
  refine a_aload_0 rfl rfl ?_
  refine a_iload_3 rfl rfl ?_
  refine a_iconst (v := (nI 2)) rfl rfl rfl ?_
  refine a_iaddN rfl rfl ?_
  refine a_iald rfl rfl (Or.inr rfl) rfl (by omega) (by omega) ?_
  refine a_as (y := xs (i + 2)) (congrFun hx (i + 2)) ?_
  refine a_virtI rfl rfl (c1) (Nat.le_of_ble_eq_true rfl) ⟨rfl, rfl, rfl, rfl⟩ rfl rfl rfl (Nat.le_of_ble_eq_true rfl) rfl rfl ?_
  refine a_aload_2 rfl rfl ?_
  refine a_aload_0 rfl rfl ?_
  refine a_iload_3 rfl rfl ?_
  refine a_iconst (v := (nI 1)) rfl rfl rfl ?_
  refine a_iaddN rfl rfl ?_
  refine a_iald rfl rfl (Or.inr rfl) rfl (by omega) (by omega) ?_
  refine a_as (y := xs (i + 1)) (congrFun (z1.trans hx) (i + 1)) ?_
  refine a_aload_0 rfl rfl ?_
  refine a_iload_3 rfl rfl ?_
  refine a_iconst (v := (nI 2)) rfl rfl rfl ?_
  refine a_iaddN rfl rfl ?_
  refine a_iald rfl rfl (Or.inr rfl) rfl (by omega) (by omega) ?_
  refine a_as (y := xs (i + 2)) (congrFun (z1.trans hx) (i + 2)) ?_
  refine a_virtI rfl rfl (c2) (Nat.le_of_ble_eq_true rfl) ⟨rfl, rfl, rfl, rfl⟩ rfl rfl rfl (Nat.le_of_ble_eq_true rfl) rfl rfl ?_
  refine a_cmp_eq rfl rfl rfl (fun _ => ?_) (fun c_698 => by first | exact absurd rfl c_698 | exact absurd c_698 rfl)
  exact N
theorem lc_17 (hi : i + 6 ≤ L) (hL : L ≤ 3072) (G : GG A B TX R t lt b k h) (hx : h 0 = xs) (hR : R + 1440 < 67108864) (nx : nxW L i R xs) : wl L i 703 (sX L t lt rt rp sw h gl) := by
  obtain ⟨v, t', lt', rt', rp', sw', h1, gl1, h2, gl2, R', A', B', TX', b', k', c1, c2, z1, z2, G', rr⟩ := (st_is (xs (i + 1))) L t lt rt rp sw h gl R A B TX b k G (by omega)
  obtain ⟨σ', N, bd⟩ := nx t' lt' rt' rp' sw' h2 gl2 R' A' B' TX' b' k' G' (z2.trans hx) (by omega)
  refine ⟨σ', ?_, bd⟩
  refine a_aload_1 rfl rfl ?_
  refine a_aload_0 rfl rfl ?_
  refine a_iload_3 rfl rfl ?_
  refine a_iconst (v := (nI 1)) rfl rfl rfl ?_
  refine a_iaddN rfl rfl ?_
  refine a_iald rfl rfl (Or.inr rfl) rfl (by omega) (by omega) ?_
  refine a_as (y := xs (i + 1)) (congrFun hx (i + 1)) ?_
  refine a_virtI rfl rfl (c1) (Nat.le_of_ble_eq_true rfl) ⟨rfl, rfl, rfl, rfl⟩ rfl rfl rfl (Nat.le_of_ble_eq_true rfl) rfl rfl ?_
  refine a_aload_2 rfl rfl ?_
  refine a_aload_0 rfl rfl ?_
  refine a_iload_3 rfl rfl ?_
  refine a_iconst (v := (nI 1)) rfl rfl rfl ?_
  refine a_iaddN rfl rfl ?_
  refine a_iald rfl rfl (Or.inr rfl) rfl (by omega) (by omega) ?_
  refine a_as (y := xs (i + 1)) (congrFun (z1.trans hx) (i + 1)) ?_
  refine a_virtI rfl rfl (c2) (Nat.le_of_ble_eq_true rfl) ⟨rfl, rfl, rfl, rfl⟩ rfl rfl rfl (Nat.le_of_ble_eq_true rfl) rfl rfl ?_
  refine a_cmp_eq rfl rfl rfl (fun _ => ?_) (fun c_721 => by first | exact absurd rfl c_721 | exact absurd c_721 rfl)
  exact N
theorem lc_18 (hi : i + 6 ≤ L) (hL : L ≤ 3072) (G : GG A B TX R t lt b k h) (hx : h 0 = xs) (hR : R + 1440 < 67108864) (nx : nxW L i R xs) : wl L i 726 (sX L t lt rt rp sw h gl) := by
  obtain ⟨v, t', lt', rt', rp', sw', h1, gl1, h2, gl2, R', A', B', TX', b', k', c1, c2, z1, z2, G', rr⟩ := (st_book (xs (i + 1)) (xs (i + 2))) L t lt rt rp sw h gl R A B TX b k G (by omega)
  obtain ⟨σ', N, bd⟩ := nx t' lt' rt' rp' sw' h2 gl2 R' A' B' TX' b' k' G' (z2.trans hx) (by omega)
  refine ⟨σ', ?_, bd⟩
  refine a_aload_1 rfl rfl ?_
  refine a_aload_0 rfl rfl ?_
  refine a_iload_3 rfl rfl ?_
  refine a_iconst (v := (nI 1)) rfl rfl rfl ?_
  refine a_iaddN rfl rfl ?_
  refine a_iald rfl rfl (Or.inr rfl) rfl (by omega) (by omega) ?_
  refine a_as (y := xs (i + 1)) (congrFun hx (i + 1)) ?_
  refine a_aload_0 rfl rfl ?_
  refine a_iload_3 rfl rfl ?_
  refine a_iconst (v := (nI 2)) rfl rfl rfl ?_
  refine a_iaddN rfl rfl ?_
  refine a_iald rfl rfl (Or.inr rfl) rfl (by omega) (by omega) ?_
  refine a_as (y := xs (i + 2)) (congrFun hx (i + 2)) ?_
  refine a_virtI rfl rfl (c1) (Nat.le_of_ble_eq_true rfl) ⟨rfl, rfl, rfl, rfl⟩ rfl rfl rfl (Nat.le_of_ble_eq_true rfl) rfl rfl ?_
  refine a_aload_2 rfl rfl ?_
  refine a_aload_0 rfl rfl ?_
  refine a_iload_3 rfl rfl ?_
  refine a_iconst (v := (nI 1)) rfl rfl rfl ?_
  refine a_iaddN rfl rfl ?_
  refine a_iald rfl rfl (Or.inr rfl) rfl (by omega) (by omega) ?_
  refine a_as (y := xs (i + 1)) (congrFun (z1.trans hx) (i + 1)) ?_
  refine a_aload_0 rfl rfl ?_
  refine a_iload_3 rfl rfl ?_
  refine a_iconst (v := (nI 2)) rfl rfl rfl ?_
  refine a_iaddN rfl rfl ?_
  refine a_iald rfl rfl (Or.inr rfl) rfl (by omega) (by omega) ?_
  refine a_as (y := xs (i + 2)) (congrFun (z1.trans hx) (i + 2)) ?_
  refine a_virtI rfl rfl (c2) (Nat.le_of_ble_eq_true rfl) ⟨rfl, rfl, rfl, rfl⟩ rfl rfl rfl (Nat.le_of_ble_eq_true rfl) rfl rfl ?_
  refine a_cmp_eq rfl rfl rfl (fun _ => ?_) (fun c_754 => by first | exact absurd rfl c_754 | exact absurd c_754 rfl)
  exact N
theorem lc_19 (hi : i + 6 ≤ L) (hL : L ≤ 3072) (G : GG A B TX R t lt b k h) (hx : h 0 = xs) (hR : R + 1440 < 67108864) (nx : nxW L i R xs) : wl L i 759 (sX L t lt rt rp sw h gl) := by
  obtain ⟨v, t', lt', rt', rp', sw', h1, gl1, h2, gl2, R', A', B', TX', b', k', c1, c2, z1, z2, G', rr⟩ := (st_foretold (xs (i + 1)) (xs (i + 2)) (xs (i + 3))) L t lt rt rp sw h gl R A B TX b k G (by omega)
  obtain ⟨σ', N, bd⟩ := nx t' lt' rt' rp' sw' h2 gl2 R' A' B' TX' b' k' G' (z2.trans hx) (by omega)
  refine ⟨σ', ?_, bd⟩
  refine a_aload_1 rfl rfl ?_
  refine a_aload_0 rfl rfl ?_
  refine a_iload_3 rfl rfl ?_
  refine a_iconst (v := (nI 1)) rfl rfl rfl ?_
  refine a_iaddN rfl rfl ?_
  refine a_iald rfl rfl (Or.inr rfl) rfl (by omega) (by omega) ?_
  refine a_as (y := xs (i + 1)) (congrFun hx (i + 1)) ?_
  refine a_aload_0 rfl rfl ?_
  refine a_iload_3 rfl rfl ?_
  refine a_iconst (v := (nI 2)) rfl rfl rfl ?_
  refine a_iaddN rfl rfl ?_
  refine a_iald rfl rfl (Or.inr rfl) rfl (by omega) (by omega) ?_
  refine a_as (y := xs (i + 2)) (congrFun hx (i + 2)) ?_
  refine a_aload_0 rfl rfl ?_
  refine a_iload_3 rfl rfl ?_
  refine a_iconst (v := (nI 3)) rfl rfl rfl ?_
  refine a_iaddN rfl rfl ?_
  refine a_iald rfl rfl (Or.inr rfl) rfl (by omega) (by omega) ?_
  refine a_as (y := xs (i + 3)) (congrFun hx (i + 3)) ?_
  refine a_virtI rfl rfl (c1) (Nat.le_of_ble_eq_true rfl) ⟨rfl, rfl, rfl, rfl⟩ rfl rfl rfl (Nat.le_of_ble_eq_true rfl) rfl rfl ?_
  refine a_aload_2 rfl rfl ?_
  refine a_aload_0 rfl rfl ?_
  refine a_iload_3 rfl rfl ?_
  refine a_iconst (v := (nI 1)) rfl rfl rfl ?_
  refine a_iaddN rfl rfl ?_
  refine a_iald rfl rfl (Or.inr rfl) rfl (by omega) (by omega) ?_
  refine a_as (y := xs (i + 1)) (congrFun (z1.trans hx) (i + 1)) ?_
  refine a_aload_0 rfl rfl ?_
  refine a_iload_3 rfl rfl ?_
  refine a_iconst (v := (nI 2)) rfl rfl rfl ?_
  refine a_iaddN rfl rfl ?_
  refine a_iald rfl rfl (Or.inr rfl) rfl (by omega) (by omega) ?_
  refine a_as (y := xs (i + 2)) (congrFun (z1.trans hx) (i + 2)) ?_
  refine a_aload_0 rfl rfl ?_
  refine a_iload_3 rfl rfl ?_
  refine a_iconst (v := (nI 3)) rfl rfl rfl ?_
  refine a_iaddN rfl rfl ?_
  refine a_iald rfl rfl (Or.inr rfl) rfl (by omega) (by omega) ?_
  refine a_as (y := xs (i + 3)) (congrFun (z1.trans hx) (i + 3)) ?_
  refine a_virtI rfl rfl (c2) (Nat.le_of_ble_eq_true rfl) ⟨rfl, rfl, rfl, rfl⟩ rfl rfl rfl (Nat.le_of_ble_eq_true rfl) rfl rfl ?_
  refine a_cmp_eq rfl rfl rfl (fun _ => ?_) (fun c_797 => by first | exact absurd rfl c_797 | exact absurd c_797 rfl)
  exact N
theorem lc_20 (hi : i + 6 ≤ L) (hL : L ≤ 3072) (G : GG A B TX R t lt b k h) (hx : h 0 = xs) (hR : R + 1440 < 67108864) (nx : nxW L i R xs) : wl L i 802 (sX L t lt rt rp sw h gl) := by
  obtain ⟨v, t', lt', rt', rp', sw', h1, gl1, h2, gl2, R', A', B', TX', b', k', c1, c2, z1, z2, G', rr⟩ := (st_steps (xs (i + 1)) (xs (i + 2))) L t lt rt rp sw h gl R A B TX b k G (by omega)
  obtain ⟨σ', N, bd⟩ := nx t' lt' rt' rp' sw' h2 gl2 R' A' B' TX' b' k' G' (z2.trans hx) (by omega)
  refine ⟨σ', ?_, bd⟩
  refine a_aload_1 rfl rfl ?_
  refine a_aload_0 rfl rfl ?_
  refine a_iload_3 rfl rfl ?_
  refine a_iconst (v := (nI 1)) rfl rfl rfl ?_
  refine a_iaddN rfl rfl ?_
  refine a_iald rfl rfl (Or.inr rfl) rfl (by omega) (by omega) ?_
  refine a_as (y := xs (i + 1)) (congrFun hx (i + 1)) ?_
  refine a_aload_0 rfl rfl ?_
  refine a_iload_3 rfl rfl ?_
  refine a_iconst (v := (nI 2)) rfl rfl rfl ?_
  refine a_iaddN rfl rfl ?_
  refine a_iald rfl rfl (Or.inr rfl) rfl (by omega) (by omega) ?_
  refine a_as (y := xs (i + 2)) (congrFun hx (i + 2)) ?_
  refine a_virtI rfl rfl (c1) (Nat.le_of_ble_eq_true rfl) ⟨rfl, rfl, rfl, rfl⟩ rfl rfl rfl (Nat.le_of_ble_eq_true rfl) rfl rfl ?_
  refine a_aload_2 rfl rfl ?_
  refine a_aload_0 rfl rfl ?_
  refine a_iload_3 rfl rfl ?_
  refine a_iconst (v := (nI 1)) rfl rfl rfl ?_
  refine a_iaddN rfl rfl ?_
  refine a_iald rfl rfl (Or.inr rfl) rfl (by omega) (by omega) ?_
  refine a_as (y := xs (i + 1)) (congrFun (z1.trans hx) (i + 1)) ?_
  refine a_aload_0 rfl rfl ?_
  refine a_iload_3 rfl rfl ?_
  refine a_iconst (v := (nI 2)) rfl rfl rfl ?_
  refine a_iaddN rfl rfl ?_
  refine a_iald rfl rfl (Or.inr rfl) rfl (by omega) (by omega) ?_
  refine a_as (y := xs (i + 2)) (congrFun (z1.trans hx) (i + 2)) ?_
  refine a_virtI rfl rfl (c2) (Nat.le_of_ble_eq_true rfl) ⟨rfl, rfl, rfl, rfl⟩ rfl rfl rfl (Nat.le_of_ble_eq_true rfl) rfl rfl ?_
  refine a_cmp_eq rfl rfl rfl (fun _ => ?_) (fun c_830 => by first | exact absurd rfl c_830 | exact absurd c_830 rfl)
  exact N
theorem lc_21 (hi : i + 6 ≤ L) (hL : L ≤ 3072) (G : GG A B TX R t lt b k h) (hx : h 0 = xs) (hR : R + 1440 < 67108864) (nx : nxW L i R xs) : wl L i 835 (sX L t lt rt rp sw h gl) := by
  obtain ⟨v, t', lt', rt', rp', sw', h1, gl1, h2, gl2, R', A', B', TX', b', k', c1, c2, z1, z2, G', rr⟩ := (st_way (xs (i + 1)) (xs (i + 2)) (xs (i + 3))) L t lt rt rp sw h gl R A B TX b k G (by omega)
  obtain ⟨σ', N, bd⟩ := nx t' lt' rt' rp' sw' h2 gl2 R' A' B' TX' b' k' G' (z2.trans hx) (by omega)
  refine ⟨σ', ?_, bd⟩
  refine a_aload_1 rfl rfl ?_
  refine a_aload_0 rfl rfl ?_
  refine a_iload_3 rfl rfl ?_
  refine a_iconst (v := (nI 1)) rfl rfl rfl ?_
  refine a_iaddN rfl rfl ?_
  refine a_iald rfl rfl (Or.inr rfl) rfl (by omega) (by omega) ?_
  refine a_as (y := xs (i + 1)) (congrFun hx (i + 1)) ?_
  refine a_aload_0 rfl rfl ?_
  refine a_iload_3 rfl rfl ?_
  refine a_iconst (v := (nI 2)) rfl rfl rfl ?_
  refine a_iaddN rfl rfl ?_
  refine a_iald rfl rfl (Or.inr rfl) rfl (by omega) (by omega) ?_
  refine a_as (y := xs (i + 2)) (congrFun hx (i + 2)) ?_
  refine a_aload_0 rfl rfl ?_
  refine a_iload_3 rfl rfl ?_
  refine a_iconst (v := (nI 3)) rfl rfl rfl ?_
  refine a_iaddN rfl rfl ?_
  refine a_iald rfl rfl (Or.inr rfl) rfl (by omega) (by omega) ?_
  refine a_as (y := xs (i + 3)) (congrFun hx (i + 3)) ?_
  refine a_virtI rfl rfl (c1) (Nat.le_of_ble_eq_true rfl) ⟨rfl, rfl, rfl, rfl⟩ rfl rfl rfl (Nat.le_of_ble_eq_true rfl) rfl rfl ?_
  refine a_aload_2 rfl rfl ?_
  refine a_aload_0 rfl rfl ?_
  refine a_iload_3 rfl rfl ?_
  refine a_iconst (v := (nI 1)) rfl rfl rfl ?_
  refine a_iaddN rfl rfl ?_
  refine a_iald rfl rfl (Or.inr rfl) rfl (by omega) (by omega) ?_
  refine a_as (y := xs (i + 1)) (congrFun (z1.trans hx) (i + 1)) ?_
  refine a_aload_0 rfl rfl ?_
  refine a_iload_3 rfl rfl ?_
  refine a_iconst (v := (nI 2)) rfl rfl rfl ?_
  refine a_iaddN rfl rfl ?_
  refine a_iald rfl rfl (Or.inr rfl) rfl (by omega) (by omega) ?_
  refine a_as (y := xs (i + 2)) (congrFun (z1.trans hx) (i + 2)) ?_
  refine a_aload_0 rfl rfl ?_
  refine a_iload_3 rfl rfl ?_
  refine a_iconst (v := (nI 3)) rfl rfl rfl ?_
  refine a_iaddN rfl rfl ?_
  refine a_iald rfl rfl (Or.inr rfl) rfl (by omega) (by omega) ?_
  refine a_as (y := xs (i + 3)) (congrFun (z1.trans hx) (i + 3)) ?_
  refine a_virtI rfl rfl (c2) (Nat.le_of_ble_eq_true rfl) ⟨rfl, rfl, rfl, rfl⟩ rfl rfl rfl (Nat.le_of_ble_eq_true rfl) rfl rfl ?_
  refine a_cmp_eq rfl rfl rfl (fun _ => ?_) (fun c_873 => by first | exact absurd rfl c_873 | exact absurd c_873 rfl)
  exact N
theorem lc_22 (hi : i + 6 ≤ L) (hL : L ≤ 3072) (G : GG A B TX R t lt b k h) (hx : h 0 = xs) (hR : R + 1440 < 67108864) (nx : nxW L i R xs) : wl L i 878 (sX L t lt rt rp sw h gl) := by
  obtain ⟨v, t', lt', rt', rp', sw', h1, gl1, h2, gl2, R', A', B', TX', b', k', c1, c2, z1, z2, G', rr⟩ := (st_rooms (xs (i + 1))) L t lt rt rp sw h gl R A B TX b k G (by omega)
  obtain ⟨σ', N, bd⟩ := nx t' lt' rt' rp' sw' h2 gl2 R' A' B' TX' b' k' G' (z2.trans hx) (by omega)
  refine ⟨σ', ?_, bd⟩
  refine a_aload_1 rfl rfl ?_
  refine a_aload_0 rfl rfl ?_
  refine a_iload_3 rfl rfl ?_
  refine a_iconst (v := (nI 1)) rfl rfl rfl ?_
  refine a_iaddN rfl rfl ?_
  refine a_iald rfl rfl (Or.inr rfl) rfl (by omega) (by omega) ?_
  refine a_as (y := xs (i + 1)) (congrFun hx (i + 1)) ?_
  refine a_virtI rfl rfl (c1) (Nat.le_of_ble_eq_true rfl) ⟨rfl, rfl, rfl, rfl⟩ rfl rfl rfl (Nat.le_of_ble_eq_true rfl) rfl rfl ?_
  refine a_aload_2 rfl rfl ?_
  refine a_aload_0 rfl rfl ?_
  refine a_iload_3 rfl rfl ?_
  refine a_iconst (v := (nI 1)) rfl rfl rfl ?_
  refine a_iaddN rfl rfl ?_
  refine a_iald rfl rfl (Or.inr rfl) rfl (by omega) (by omega) ?_
  refine a_as (y := xs (i + 1)) (congrFun (z1.trans hx) (i + 1)) ?_
  refine a_virtI rfl rfl (c2) (Nat.le_of_ble_eq_true rfl) ⟨rfl, rfl, rfl, rfl⟩ rfl rfl rfl (Nat.le_of_ble_eq_true rfl) rfl rfl ?_
  refine a_cmp_eq rfl rfl rfl (fun _ => ?_) (fun c_896 => by first | exact absurd rfl c_896 | exact absurd c_896 rfl)
  exact N
theorem lc_23 (hi : i + 6 ≤ L) (hL : L ≤ 3072) (G : GG A B TX R t lt b k h) (hx : h 0 = xs) (hR : R + 1440 < 67108864) (nx : nxW L i R xs) : wl L i 901 (sX L t lt rt rp sw h gl) := by
  obtain ⟨v, t', lt', rt', rp', sw', h1, gl1, h2, gl2, R', A', B', TX', b', k', c1, c2, z1, z2, G', rr⟩ := (st_room (xs (i + 1))) L t lt rt rp sw h gl R A B TX b k G (by omega)
  obtain ⟨σ', N, bd⟩ := nx t' lt' rt' rp' sw' h2 gl2 R' A' B' TX' b' k' G' (z2.trans hx) (by omega)
  refine ⟨σ', ?_, bd⟩
  refine a_aload_1 rfl rfl ?_
  refine a_aload_0 rfl rfl ?_
  refine a_iload_3 rfl rfl ?_
  refine a_iconst (v := (nI 1)) rfl rfl rfl ?_
  refine a_iaddN rfl rfl ?_
  refine a_iald rfl rfl (Or.inr rfl) rfl (by omega) (by omega) ?_
  refine a_as (y := xs (i + 1)) (congrFun hx (i + 1)) ?_
  refine a_virtI rfl rfl (c1) (Nat.le_of_ble_eq_true rfl) ⟨rfl, rfl, rfl, rfl⟩ rfl rfl rfl (Nat.le_of_ble_eq_true rfl) rfl rfl ?_
  refine a_aload_2 rfl rfl ?_
  refine a_aload_0 rfl rfl ?_
  refine a_iload_3 rfl rfl ?_
  refine a_iconst (v := (nI 1)) rfl rfl rfl ?_
  refine a_iaddN rfl rfl ?_
  refine a_iald rfl rfl (Or.inr rfl) rfl (by omega) (by omega) ?_
  refine a_as (y := xs (i + 1)) (congrFun (z1.trans hx) (i + 1)) ?_
  refine a_virtI rfl rfl (c2) (Nat.le_of_ble_eq_true rfl) ⟨rfl, rfl, rfl, rfl⟩ rfl rfl rfl (Nat.le_of_ble_eq_true rfl) rfl rfl ?_
  refine a_cmp_eq rfl rfl rfl (fun _ => ?_) (fun c_919 => by first | exact absurd rfl c_919 | exact absurd c_919 rfl)
  exact N
theorem lc_24 (hi : i + 6 ≤ L) (hL : L ≤ 3072) (G : GG A B TX R t lt b k h) (hx : h 0 = xs) (hR : R + 1440 < 67108864) (nx : nxW L i R xs) : wl L i 924 (sX L t lt rt rp sw h gl) := by
  obtain ⟨v, t', lt', rt', rp', sw', h1, gl1, h2, gl2, R', A', B', TX', b', k', c1, c2, z1, z2, G', rr⟩ := (st_work (xs (i + 1)) (xs (i + 2))) L t lt rt rp sw h gl R A B TX b k G (by omega)
  obtain ⟨σ', N, bd⟩ := nx t' lt' rt' rp' sw' h2 gl2 R' A' B' TX' b' k' G' (z2.trans hx) (by omega)
  refine ⟨σ', ?_, bd⟩
  refine a_aload_1 rfl rfl ?_
  refine a_aload_0 rfl rfl ?_
  refine a_iload_3 rfl rfl ?_
  refine a_iconst (v := (nI 1)) rfl rfl rfl ?_
  refine a_iaddN rfl rfl ?_
  refine a_iald rfl rfl (Or.inr rfl) rfl (by omega) (by omega) ?_
  refine a_as (y := xs (i + 1)) (congrFun hx (i + 1)) ?_
  refine a_aload_0 rfl rfl ?_
  refine a_iload_3 rfl rfl ?_
  refine a_iconst (v := (nI 2)) rfl rfl rfl ?_
  refine a_iaddN rfl rfl ?_
  refine a_iald rfl rfl (Or.inr rfl) rfl (by omega) (by omega) ?_
  refine a_as (y := xs (i + 2)) (congrFun hx (i + 2)) ?_
  refine a_virtI rfl rfl (c1) (Nat.le_of_ble_eq_true rfl) ⟨rfl, rfl, rfl, rfl⟩ rfl rfl rfl (Nat.le_of_ble_eq_true rfl) rfl rfl ?_
  refine a_aload_2 rfl rfl ?_
  refine a_aload_0 rfl rfl ?_
  refine a_iload_3 rfl rfl ?_
  refine a_iconst (v := (nI 1)) rfl rfl rfl ?_
  refine a_iaddN rfl rfl ?_
  refine a_iald rfl rfl (Or.inr rfl) rfl (by omega) (by omega) ?_
  refine a_as (y := xs (i + 1)) (congrFun (z1.trans hx) (i + 1)) ?_
  refine a_aload_0 rfl rfl ?_
  refine a_iload_3 rfl rfl ?_
  refine a_iconst (v := (nI 2)) rfl rfl rfl ?_
  refine a_iaddN rfl rfl ?_
  refine a_iald rfl rfl (Or.inr rfl) rfl (by omega) (by omega) ?_
  refine a_as (y := xs (i + 2)) (congrFun (z1.trans hx) (i + 2)) ?_
  refine a_virtI rfl rfl (c2) (Nat.le_of_ble_eq_true rfl) ⟨rfl, rfl, rfl, rfl⟩ rfl rfl rfl (Nat.le_of_ble_eq_true rfl) rfl rfl ?_
  refine a_cmp_eq rfl rfl rfl (fun _ => ?_) (fun c_952 => by first | exact absurd rfl c_952 | exact absurd c_952 rfl)
  exact N
theorem lc_25 (hi : i + 6 ≤ L) (hL : L ≤ 3072) (G : GG A B TX R t lt b k h) (hx : h 0 = xs) (hR : R + 1440 < 67108864) (nx : nxW L i R xs) : wl L i 957 (sX L t lt rt rp sw h gl) := by
  obtain ⟨v, t', lt', rt', rp', sw', h1, gl1, h2, gl2, R', A', B', TX', b', k', c1, c2, z1, z2, G', rr⟩ := (st_dark (xs (i + 1)) (xs (i + 2))) L t lt rt rp sw h gl R A B TX b k G (by omega)
  obtain ⟨σ', N, bd⟩ := nx t' lt' rt' rp' sw' h2 gl2 R' A' B' TX' b' k' G' (z2.trans hx) (by omega)
  refine ⟨σ', ?_, bd⟩
  refine a_aload_1 rfl rfl ?_
  refine a_aload_0 rfl rfl ?_
  refine a_iload_3 rfl rfl ?_
  refine a_iconst (v := (nI 1)) rfl rfl rfl ?_
  refine a_iaddN rfl rfl ?_
  refine a_iald rfl rfl (Or.inr rfl) rfl (by omega) (by omega) ?_
  refine a_as (y := xs (i + 1)) (congrFun hx (i + 1)) ?_
  refine a_aload_0 rfl rfl ?_
  refine a_iload_3 rfl rfl ?_
  refine a_iconst (v := (nI 2)) rfl rfl rfl ?_
  refine a_iaddN rfl rfl ?_
  refine a_iald rfl rfl (Or.inr rfl) rfl (by omega) (by omega) ?_
  refine a_as (y := xs (i + 2)) (congrFun hx (i + 2)) ?_
  refine a_virtI rfl rfl (c1) (Nat.le_of_ble_eq_true rfl) ⟨rfl, rfl, rfl, rfl⟩ rfl rfl rfl (Nat.le_of_ble_eq_true rfl) rfl rfl ?_
  refine a_aload_2 rfl rfl ?_
  refine a_aload_0 rfl rfl ?_
  refine a_iload_3 rfl rfl ?_
  refine a_iconst (v := (nI 1)) rfl rfl rfl ?_
  refine a_iaddN rfl rfl ?_
  refine a_iald rfl rfl (Or.inr rfl) rfl (by omega) (by omega) ?_
  refine a_as (y := xs (i + 1)) (congrFun (z1.trans hx) (i + 1)) ?_
  refine a_aload_0 rfl rfl ?_
  refine a_iload_3 rfl rfl ?_
  refine a_iconst (v := (nI 2)) rfl rfl rfl ?_
  refine a_iaddN rfl rfl ?_
  refine a_iald rfl rfl (Or.inr rfl) rfl (by omega) (by omega) ?_
  refine a_as (y := xs (i + 2)) (congrFun (z1.trans hx) (i + 2)) ?_
  refine a_virtI rfl rfl (c2) (Nat.le_of_ble_eq_true rfl) ⟨rfl, rfl, rfl, rfl⟩ rfl rfl rfl (Nat.le_of_ble_eq_true rfl) rfl rfl ?_
  refine a_cmp_eq rfl rfl rfl (fun _ => ?_) (fun c_985 => by first | exact absurd rfl c_985 | exact absurd c_985 rfl)
  exact N
theorem lc_26 (hi : i + 6 ≤ L) (hL : L ≤ 3072) (G : GG A B TX R t lt b k h) (hx : h 0 = xs) (hR : R + 1440 < 67108864) (nx : nxW L i R xs) : wl L i 990 (sX L t lt rt rp sw h gl) := by
  by_cases cz : xs (i + 1) = 0
  · obtain ⟨v, t', lt', rt', rp', sw', h1, gl1, h2, gl2, R', A', B', TX', b', k', c1, c2, z1, z2, G', rr⟩ := (st_best (nI 0) (Or.inl rfl)) L t lt rt rp sw h gl R A B TX b k G (by omega)
    obtain ⟨σ', N, bd⟩ := nx t' lt' rt' rp' sw' h2 gl2 R' A' B' TX' b' k' G' (z2.trans hx) (by omega)
    refine ⟨σ', ?_, bd⟩
    refine a_aload_1 rfl rfl ?_
    refine a_aload_0 rfl rfl ?_
    refine a_iload_3 rfl rfl ?_
    refine a_iconst (v := (nI 1)) rfl rfl rfl ?_
    refine a_iaddN rfl rfl ?_
    refine a_iald rfl rfl (Or.inr rfl) rfl (by omega) (by omega) ?_
    refine a_as (y := xs (i + 1)) (congrFun hx (i + 1)) ?_
    refine a_if_eq rfl rfl rfl (fun _ => ?_) (fun c_996 => by first | exact absurd cz c_996 | exact absurd c_996 cz)
    refine a_iconst (v := (nI 0)) rfl rfl rfl ?_
    refine a_virtI rfl rfl (c1) (Nat.le_of_ble_eq_true rfl) ⟨rfl, rfl, rfl, rfl⟩ rfl rfl rfl (Nat.le_of_ble_eq_true rfl) rfl rfl ?_
    refine a_aload_2 rfl rfl ?_
    refine a_aload_0 rfl rfl ?_
    refine a_iload_3 rfl rfl ?_
    refine a_iconst (v := (nI 1)) rfl rfl rfl ?_
    refine a_iaddN rfl rfl ?_
    refine a_iald rfl rfl (Or.inr rfl) rfl (by omega) (by omega) ?_
    refine a_as (y := xs (i + 1)) (congrFun (z1.trans hx) (i + 1)) ?_
    refine a_if_eq rfl rfl rfl (fun _ => ?_) (fun c_1013 => by first | exact absurd cz c_1013 | exact absurd c_1013 cz)
    refine a_iconst (v := (nI 0)) rfl rfl rfl ?_
    refine a_virtI rfl rfl (c2) (Nat.le_of_ble_eq_true rfl) ⟨rfl, rfl, rfl, rfl⟩ rfl rfl rfl (Nat.le_of_ble_eq_true rfl) rfl rfl ?_
    refine a_cmp_eq rfl rfl rfl (fun _ => ?_) (fun c_1024 => by first | exact absurd rfl c_1024 | exact absurd c_1024 rfl)
    exact N
  · obtain ⟨v, t', lt', rt', rp', sw', h1, gl1, h2, gl2, R', A', B', TX', b', k', c1, c2, z1, z2, G', rr⟩ := (st_best (nI 1) (Or.inr rfl)) L t lt rt rp sw h gl R A B TX b k G (by omega)
    obtain ⟨σ', N, bd⟩ := nx t' lt' rt' rp' sw' h2 gl2 R' A' B' TX' b' k' G' (z2.trans hx) (by omega)
    refine ⟨σ', ?_, bd⟩
    refine a_aload_1 rfl rfl ?_
    refine a_aload_0 rfl rfl ?_
    refine a_iload_3 rfl rfl ?_
    refine a_iconst (v := (nI 1)) rfl rfl rfl ?_
    refine a_iaddN rfl rfl ?_
    refine a_iald rfl rfl (Or.inr rfl) rfl (by omega) (by omega) ?_
    refine a_as (y := xs (i + 1)) (congrFun hx (i + 1)) ?_
    refine a_if_eq rfl rfl rfl (fun c_996 => by first | exact absurd c_996 cz | exact absurd cz c_996) (fun _ => ?_)
    refine a_iconst (v := (nI 1)) rfl rfl rfl ?_
    refine a_goto rfl rfl ?_
    refine a_virtI rfl rfl (c1) (Nat.le_of_ble_eq_true rfl) ⟨rfl, rfl, rfl, rfl⟩ rfl rfl rfl (Nat.le_of_ble_eq_true rfl) rfl rfl ?_
    refine a_aload_2 rfl rfl ?_
    refine a_aload_0 rfl rfl ?_
    refine a_iload_3 rfl rfl ?_
    refine a_iconst (v := (nI 1)) rfl rfl rfl ?_
    refine a_iaddN rfl rfl ?_
    refine a_iald rfl rfl (Or.inr rfl) rfl (by omega) (by omega) ?_
    refine a_as (y := xs (i + 1)) (congrFun (z1.trans hx) (i + 1)) ?_
    refine a_if_eq rfl rfl rfl (fun c_1013 => by first | exact absurd c_1013 cz | exact absurd cz c_1013) (fun _ => ?_)
    refine a_iconst (v := (nI 1)) rfl rfl rfl ?_
    refine a_goto rfl rfl ?_
    refine a_virtI rfl rfl (c2) (Nat.le_of_ble_eq_true rfl) ⟨rfl, rfl, rfl, rfl⟩ rfl rfl rfl (Nat.le_of_ble_eq_true rfl) rfl rfl ?_
    refine a_cmp_eq rfl rfl rfl (fun _ => ?_) (fun c_1024 => by first | exact absurd rfl c_1024 | exact absurd c_1024 rfl)
    exact N
theorem lc_27 (hi : i + 6 ≤ L) (hL : L ≤ 3072) (G : GG A B TX R t lt b k h) (hx : h 0 = xs) (hR : R + 1440 < 67108864) (nx : nxW L i R xs) : wl L i 1029 (sX L t lt rt rp sw h gl) := by
  obtain ⟨v, t', lt', rt', rp', sw', h1, gl1, h2, gl2, R', A', B', TX', b', k', c1, c2, z1, z2, G', rr⟩ := (st_lit (xs (i + 1))) L t lt rt rp sw h gl R A B TX b k G (by omega)
  obtain ⟨σ', N, bd⟩ := nx t' lt' rt' rp' sw' h2 gl2 R' A' B' TX' b' k' G' (z2.trans hx) (by omega)
  refine ⟨σ', ?_, bd⟩
  refine a_aload_1 rfl rfl ?_
  refine a_aload_0 rfl rfl ?_
  refine a_iload_3 rfl rfl ?_
  refine a_iconst (v := (nI 1)) rfl rfl rfl ?_
  refine a_iaddN rfl rfl ?_
  refine a_iald rfl rfl (Or.inr rfl) rfl (by omega) (by omega) ?_
  refine a_as (y := xs (i + 1)) (congrFun hx (i + 1)) ?_
  refine a_virtI rfl rfl (c1) (Nat.le_of_ble_eq_true rfl) ⟨rfl, rfl, rfl, rfl⟩ rfl rfl rfl (Nat.le_of_ble_eq_true rfl) rfl rfl ?_
  refine a_aload_2 rfl rfl ?_
  refine a_aload_0 rfl rfl ?_
  refine a_iload_3 rfl rfl ?_
  refine a_iconst (v := (nI 1)) rfl rfl rfl ?_
  refine a_iaddN rfl rfl ?_
  refine a_iald rfl rfl (Or.inr rfl) rfl (by omega) (by omega) ?_
  refine a_as (y := xs (i + 1)) (congrFun (z1.trans hx) (i + 1)) ?_
  refine a_virtI rfl rfl (c2) (Nat.le_of_ble_eq_true rfl) ⟨rfl, rfl, rfl, rfl⟩ rfl rfl rfl (Nat.le_of_ble_eq_true rfl) rfl rfl ?_
  refine a_cmp_eq rfl rfl rfl (fun _ => ?_) (fun c_1047 => by first | exact absurd rfl c_1047 | exact absurd c_1047 rfl)
  exact N
theorem lc_28 (hi : i + 6 ≤ L) (hL : L ≤ 3072) (G : GG A B TX R t lt b k h) (hx : h 0 = xs) (hR : R + 1440 < 67108864) (nx : nxW L i R xs) : wl L i 1052 (sX L t lt rt rp sw h gl) := by
  obtain ⟨v, t', lt', rt', rp', sw', h1, gl1, h2, gl2, R', A', B', TX', b', k', c1, c2, z1, z2, G', rr⟩ := (st_seen (xs (i + 1)) (xs (i + 2))) L t lt rt rp sw h gl R A B TX b k G (by omega)
  obtain ⟨σ', N, bd⟩ := nx t' lt' rt' rp' sw' h2 gl2 R' A' B' TX' b' k' G' (z2.trans hx) (by omega)
  refine ⟨σ', ?_, bd⟩
  refine a_aload_1 rfl rfl ?_
  refine a_aload_0 rfl rfl ?_
  refine a_iload_3 rfl rfl ?_
  refine a_iconst (v := (nI 1)) rfl rfl rfl ?_
  refine a_iaddN rfl rfl ?_
  refine a_iald rfl rfl (Or.inr rfl) rfl (by omega) (by omega) ?_
  refine a_as (y := xs (i + 1)) (congrFun hx (i + 1)) ?_
  refine a_aload_0 rfl rfl ?_
  refine a_iload_3 rfl rfl ?_
  refine a_iconst (v := (nI 2)) rfl rfl rfl ?_
  refine a_iaddN rfl rfl ?_
  refine a_iald rfl rfl (Or.inr rfl) rfl (by omega) (by omega) ?_
  refine a_as (y := xs (i + 2)) (congrFun hx (i + 2)) ?_
  refine a_virtI rfl rfl (c1) (Nat.le_of_ble_eq_true rfl) ⟨rfl, rfl, rfl, rfl⟩ rfl rfl rfl (Nat.le_of_ble_eq_true rfl) rfl rfl ?_
  refine a_aload_2 rfl rfl ?_
  refine a_aload_0 rfl rfl ?_
  refine a_iload_3 rfl rfl ?_
  refine a_iconst (v := (nI 1)) rfl rfl rfl ?_
  refine a_iaddN rfl rfl ?_
  refine a_iald rfl rfl (Or.inr rfl) rfl (by omega) (by omega) ?_
  refine a_as (y := xs (i + 1)) (congrFun (z1.trans hx) (i + 1)) ?_
  refine a_aload_0 rfl rfl ?_
  refine a_iload_3 rfl rfl ?_
  refine a_iconst (v := (nI 2)) rfl rfl rfl ?_
  refine a_iaddN rfl rfl ?_
  refine a_iald rfl rfl (Or.inr rfl) rfl (by omega) (by omega) ?_
  refine a_as (y := xs (i + 2)) (congrFun (z1.trans hx) (i + 2)) ?_
  refine a_virtI rfl rfl (c2) (Nat.le_of_ble_eq_true rfl) ⟨rfl, rfl, rfl, rfl⟩ rfl rfl rfl (Nat.le_of_ble_eq_true rfl) rfl rfl ?_
  refine a_cmp_eq rfl rfl rfl (fun _ => ?_) (fun c_1080 => by first | exact absurd rfl c_1080 | exact absurd c_1080 rfl)
  exact N
theorem lc_29 (hi : i + 6 ≤ L) (hL : L ≤ 3072) (G : GG A B TX R t lt b k h) (hx : h 0 = xs) (hR : R + 1440 < 67108864) (nx : nxW L i R xs) : wl L i 1085 (sX L t lt rt rp sw h gl) := by
  obtain ⟨v, t', lt', rt', rp', sw', h1, gl1, h2, gl2, R', A', B', TX', b', k', c1, c2, z1, z2, G', rr⟩ := (st_fits (xs (i + 1))) L t lt rt rp sw h gl R A B TX b k G (by omega)
  obtain ⟨σ', N, bd⟩ := nx t' lt' rt' rp' sw' h2 gl2 R' A' B' TX' b' k' G' (z2.trans hx) (by omega)
  refine ⟨σ', ?_, bd⟩
  refine a_aload_1 rfl rfl ?_
  refine a_aload_0 rfl rfl ?_
  refine a_iload_3 rfl rfl ?_
  refine a_iconst (v := (nI 1)) rfl rfl rfl ?_
  refine a_iaddN rfl rfl ?_
  refine a_iald rfl rfl (Or.inr rfl) rfl (by omega) (by omega) ?_
  refine a_as (y := xs (i + 1)) (congrFun hx (i + 1)) ?_
  refine a_virtI rfl rfl (c1) (Nat.le_of_ble_eq_true rfl) ⟨rfl, rfl, rfl, rfl⟩ rfl rfl rfl (Nat.le_of_ble_eq_true rfl) rfl rfl ?_
  refine a_aload_2 rfl rfl ?_
  refine a_aload_0 rfl rfl ?_
  refine a_iload_3 rfl rfl ?_
  refine a_iconst (v := (nI 1)) rfl rfl rfl ?_
  refine a_iaddN rfl rfl ?_
  refine a_iald rfl rfl (Or.inr rfl) rfl (by omega) (by omega) ?_
  refine a_as (y := xs (i + 1)) (congrFun (z1.trans hx) (i + 1)) ?_
  refine a_virtI rfl rfl (c2) (Nat.le_of_ble_eq_true rfl) ⟨rfl, rfl, rfl, rfl⟩ rfl rfl rfl (Nat.le_of_ble_eq_true rfl) rfl rfl ?_
  refine a_cmp_eq rfl rfl rfl (fun _ => ?_) (fun c_1103 => by first | exact absurd rfl c_1103 | exact absurd c_1103 rfl)
  exact N
theorem lc_30 (hi : i + 6 ≤ L) (hL : L ≤ 3072) (G : GG A B TX R t lt b k h) (hx : h 0 = xs) (hR : R + 1440 < 67108864) (nx : nxW L i R xs) : wl L i 1108 (sX L t lt rt rp sw h gl) := by
  obtain ⟨v, t', lt', rt', rp', sw', h1, gl1, h2, gl2, R', A', B', TX', b', k', c1, c2, z1, z2, G', rr⟩ := (st_ask) L t lt rt rp sw h gl R A B TX b k G (by omega)
  obtain ⟨σ', N, bd⟩ := nx t' lt' rt' rp' sw' h2 gl2 R' A' B' TX' b' k' G' (z2.trans hx) (by omega)
  refine ⟨σ', ?_, bd⟩
  refine a_aload_1 rfl rfl ?_
  refine a_virtI rfl rfl (c1) (Nat.le_of_ble_eq_true rfl) ⟨rfl, rfl, rfl, rfl⟩ rfl rfl rfl (Nat.le_of_ble_eq_true rfl) rfl rfl ?_
  refine a_aload_2 rfl rfl ?_
  refine a_virtI rfl rfl (c2) (Nat.le_of_ble_eq_true rfl) ⟨rfl, rfl, rfl, rfl⟩ rfl rfl rfl (Nat.le_of_ble_eq_true rfl) rfl rfl ?_
  refine a_cmp_eq rfl rfl rfl (fun _ => ?_) (fun c_1116 => by first | exact absurd rfl c_1116 | exact absurd c_1116 rfl)
  exact N
theorem lc_31 (hi : i + 6 ≤ L) (hL : L ≤ 3072) (G : GG A B TX R t lt b k h) (hx : h 0 = xs) (hR : R + 1440 < 67108864) (nx : nxW L i R xs) : wl L i 1121 (sX L t lt rt rp sw h gl) := by
  by_cases cz : xs (i + 2) = 0
  · obtain ⟨v, t', lt', rt', rp', sw', h1, gl1, h2, gl2, R', A', B', TX', b', k', c1, c2, z1, z2, G', rr⟩ := (st_seats (xs (i + 1)) (nI 0)) L t lt rt rp sw h gl R A B TX b k G (by omega)
    obtain ⟨σ', N, bd⟩ := nx t' lt' rt' rp' sw' h2 gl2 R' A' B' TX' b' k' G' (z2.trans hx) (by omega)
    refine ⟨σ', ?_, bd⟩
    refine a_aload_1 rfl rfl ?_
    refine a_aload_0 rfl rfl ?_
    refine a_iload_3 rfl rfl ?_
    refine a_iconst (v := (nI 1)) rfl rfl rfl ?_
    refine a_iaddN rfl rfl ?_
    refine a_iald rfl rfl (Or.inr rfl) rfl (by omega) (by omega) ?_
    refine a_as (y := xs (i + 1)) (congrFun hx (i + 1)) ?_
    refine a_aload_0 rfl rfl ?_
    refine a_iload_3 rfl rfl ?_
    refine a_iconst (v := (nI 2)) rfl rfl rfl ?_
    refine a_iaddN rfl rfl ?_
    refine a_iald rfl rfl (Or.inr rfl) rfl (by omega) (by omega) ?_
    refine a_as (y := xs (i + 2)) (congrFun hx (i + 2)) ?_
    refine a_if_eq rfl rfl rfl (fun _ => ?_) (fun c_1132 => by first | exact absurd cz c_1132 | exact absurd c_1132 cz)
    refine a_iconst (v := (nI 0)) rfl rfl rfl ?_
    refine a_virtI rfl rfl (c1) (Nat.le_of_ble_eq_true rfl) ⟨rfl, rfl, rfl, rfl⟩ rfl rfl rfl (Nat.le_of_ble_eq_true rfl) rfl rfl ?_
    refine a_aload_2 rfl rfl ?_
    refine a_aload_0 rfl rfl ?_
    refine a_iload_3 rfl rfl ?_
    refine a_iconst (v := (nI 1)) rfl rfl rfl ?_
    refine a_iaddN rfl rfl ?_
    refine a_iald rfl rfl (Or.inr rfl) rfl (by omega) (by omega) ?_
    refine a_as (y := xs (i + 1)) (congrFun (z1.trans hx) (i + 1)) ?_
    refine a_aload_0 rfl rfl ?_
    refine a_iload_3 rfl rfl ?_
    refine a_iconst (v := (nI 2)) rfl rfl rfl ?_
    refine a_iaddN rfl rfl ?_
    refine a_iald rfl rfl (Or.inr rfl) rfl (by omega) (by omega) ?_
    refine a_as (y := xs (i + 2)) (congrFun (z1.trans hx) (i + 2)) ?_
    refine a_if_eq rfl rfl rfl (fun _ => ?_) (fun c_1154 => by first | exact absurd cz c_1154 | exact absurd c_1154 cz)
    refine a_iconst (v := (nI 0)) rfl rfl rfl ?_
    refine a_virtI rfl rfl (c2) (Nat.le_of_ble_eq_true rfl) ⟨rfl, rfl, rfl, rfl⟩ rfl rfl rfl (Nat.le_of_ble_eq_true rfl) rfl rfl ?_
    refine a_cmp_eq rfl rfl rfl (fun _ => ?_) (fun c_1165 => by first | exact absurd rfl c_1165 | exact absurd c_1165 rfl)
    exact N
  · obtain ⟨v, t', lt', rt', rp', sw', h1, gl1, h2, gl2, R', A', B', TX', b', k', c1, c2, z1, z2, G', rr⟩ := (st_seats (xs (i + 1)) (nI 1)) L t lt rt rp sw h gl R A B TX b k G (by omega)
    obtain ⟨σ', N, bd⟩ := nx t' lt' rt' rp' sw' h2 gl2 R' A' B' TX' b' k' G' (z2.trans hx) (by omega)
    refine ⟨σ', ?_, bd⟩
    refine a_aload_1 rfl rfl ?_
    refine a_aload_0 rfl rfl ?_
    refine a_iload_3 rfl rfl ?_
    refine a_iconst (v := (nI 1)) rfl rfl rfl ?_
    refine a_iaddN rfl rfl ?_
    refine a_iald rfl rfl (Or.inr rfl) rfl (by omega) (by omega) ?_
    refine a_as (y := xs (i + 1)) (congrFun hx (i + 1)) ?_
    refine a_aload_0 rfl rfl ?_
    refine a_iload_3 rfl rfl ?_
    refine a_iconst (v := (nI 2)) rfl rfl rfl ?_
    refine a_iaddN rfl rfl ?_
    refine a_iald rfl rfl (Or.inr rfl) rfl (by omega) (by omega) ?_
    refine a_as (y := xs (i + 2)) (congrFun hx (i + 2)) ?_
    refine a_if_eq rfl rfl rfl (fun c_1132 => by first | exact absurd c_1132 cz | exact absurd cz c_1132) (fun _ => ?_)
    refine a_iconst (v := (nI 1)) rfl rfl rfl ?_
    refine a_goto rfl rfl ?_
    refine a_virtI rfl rfl (c1) (Nat.le_of_ble_eq_true rfl) ⟨rfl, rfl, rfl, rfl⟩ rfl rfl rfl (Nat.le_of_ble_eq_true rfl) rfl rfl ?_
    refine a_aload_2 rfl rfl ?_
    refine a_aload_0 rfl rfl ?_
    refine a_iload_3 rfl rfl ?_
    refine a_iconst (v := (nI 1)) rfl rfl rfl ?_
    refine a_iaddN rfl rfl ?_
    refine a_iald rfl rfl (Or.inr rfl) rfl (by omega) (by omega) ?_
    refine a_as (y := xs (i + 1)) (congrFun (z1.trans hx) (i + 1)) ?_
    refine a_aload_0 rfl rfl ?_
    refine a_iload_3 rfl rfl ?_
    refine a_iconst (v := (nI 2)) rfl rfl rfl ?_
    refine a_iaddN rfl rfl ?_
    refine a_iald rfl rfl (Or.inr rfl) rfl (by omega) (by omega) ?_
    refine a_as (y := xs (i + 2)) (congrFun (z1.trans hx) (i + 2)) ?_
    refine a_if_eq rfl rfl rfl (fun c_1154 => by first | exact absurd c_1154 cz | exact absurd cz c_1154) (fun _ => ?_)
    refine a_iconst (v := (nI 1)) rfl rfl rfl ?_
    refine a_goto rfl rfl ?_
    refine a_virtI rfl rfl (c2) (Nat.le_of_ble_eq_true rfl) ⟨rfl, rfl, rfl, rfl⟩ rfl rfl rfl (Nat.le_of_ble_eq_true rfl) rfl rfl ?_
    refine a_cmp_eq rfl rfl rfl (fun _ => ?_) (fun c_1165 => by first | exact absurd rfl c_1165 | exact absurd c_1165 rfl)
    exact N
theorem lc_32 (hi : i + 6 ≤ L) (hL : L ≤ 3072) (G : GG A B TX R t lt b k h) (hx : h 0 = xs) (hR : R + 1440 < 67108864) (nx : nxW L i R xs) : wl L i 1170 (sX L t lt rt rp sw h gl) := by
  obtain ⟨v, t', lt', rt', rp', sw', h1, gl1, h2, gl2, R', A', B', TX', b', k', c1, c2, z1, z2, G', rr⟩ := (st_flood (xs (i + 1))) L t lt rt rp sw h gl R A B TX b k G (by omega)
  obtain ⟨σ', N, bd⟩ := nx t' lt' rt' rp' sw' h2 gl2 R' A' B' TX' b' k' G' (z2.trans hx) (by omega)
  refine ⟨σ', ?_, bd⟩
  refine a_aload_1 rfl rfl ?_
  refine a_aload_0 rfl rfl ?_
  refine a_iload_3 rfl rfl ?_
  refine a_iconst (v := (nI 1)) rfl rfl rfl ?_
  refine a_iaddN rfl rfl ?_
  refine a_iald rfl rfl (Or.inr rfl) rfl (by omega) (by omega) ?_
  refine a_as (y := xs (i + 1)) (congrFun hx (i + 1)) ?_
  refine a_virtI rfl rfl (c1) (Nat.le_of_ble_eq_true rfl) ⟨rfl, rfl, rfl, rfl⟩ rfl rfl rfl (Nat.le_of_ble_eq_true rfl) rfl rfl ?_
  refine a_aload_2 rfl rfl ?_
  refine a_aload_0 rfl rfl ?_
  refine a_iload_3 rfl rfl ?_
  refine a_iconst (v := (nI 1)) rfl rfl rfl ?_
  refine a_iaddN rfl rfl ?_
  refine a_iald rfl rfl (Or.inr rfl) rfl (by omega) (by omega) ?_
  refine a_as (y := xs (i + 1)) (congrFun (z1.trans hx) (i + 1)) ?_
  refine a_virtI rfl rfl (c2) (Nat.le_of_ble_eq_true rfl) ⟨rfl, rfl, rfl, rfl⟩ rfl rfl rfl (Nat.le_of_ble_eq_true rfl) rfl rfl ?_
  refine a_cmp_eq rfl rfl rfl (fun _ => ?_) (fun c_1188 => by first | exact absurd rfl c_1188 | exact absurd c_1188 rfl)
  exact N
theorem lc_33 (hi : i + 6 ≤ L) (hL : L ≤ 3072) (G : GG A B TX R t lt b k h) (hx : h 0 = xs) (hR : R + 1440 < 67108864) (nx : nxW L i R xs) : wl L i 1193 (sX L t lt rt rp sw h gl) := by
  obtain ⟨v, t', lt', rt', rp', sw', h1, gl1, h2, gl2, R', A', B', TX', b', k', c1, c2, z1, z2, G', rr⟩ := (st_wet (xs (i + 1))) L t lt rt rp sw h gl R A B TX b k G (by omega)
  obtain ⟨σ', N, bd⟩ := nx t' lt' rt' rp' sw' h2 gl2 R' A' B' TX' b' k' G' (z2.trans hx) (by omega)
  refine ⟨σ', ?_, bd⟩
  refine a_aload_1 rfl rfl ?_
  refine a_aload_0 rfl rfl ?_
  refine a_iload_3 rfl rfl ?_
  refine a_iconst (v := (nI 1)) rfl rfl rfl ?_
  refine a_iaddN rfl rfl ?_
  refine a_iald rfl rfl (Or.inr rfl) rfl (by omega) (by omega) ?_
  refine a_as (y := xs (i + 1)) (congrFun hx (i + 1)) ?_
  refine a_virtI rfl rfl (c1) (Nat.le_of_ble_eq_true rfl) ⟨rfl, rfl, rfl, rfl⟩ rfl rfl rfl (Nat.le_of_ble_eq_true rfl) rfl rfl ?_
  refine a_aload_2 rfl rfl ?_
  refine a_aload_0 rfl rfl ?_
  refine a_iload_3 rfl rfl ?_
  refine a_iconst (v := (nI 1)) rfl rfl rfl ?_
  refine a_iaddN rfl rfl ?_
  refine a_iald rfl rfl (Or.inr rfl) rfl (by omega) (by omega) ?_
  refine a_as (y := xs (i + 1)) (congrFun (z1.trans hx) (i + 1)) ?_
  refine a_virtI rfl rfl (c2) (Nat.le_of_ble_eq_true rfl) ⟨rfl, rfl, rfl, rfl⟩ rfl rfl rfl (Nat.le_of_ble_eq_true rfl) rfl rfl ?_
  refine a_cmp_eq rfl rfl rfl (fun _ => ?_) (fun c_1211 => by first | exact absurd rfl c_1211 | exact absurd c_1211 rfl)
  exact N
theorem lc_34 (hi : i + 6 ≤ L) (hL : L ≤ 3072) (G : GG A B TX R t lt b k h) (hx : h 0 = xs) (hR : R + 1440 < 67108864) (nx : nxW L i R xs) : wl L i 1216 (sX L t lt rt rp sw h gl) := by
  obtain ⟨v, t', lt', rt', rp', sw', h1, gl1, h2, gl2, R', A', B', TX', b', k', c1, c2, z1, z2, G', rr⟩ := (st_gain (xs (i + 1)) (xs (i + 2))) L t lt rt rp sw h gl R A B TX b k G (by omega)
  obtain ⟨σ', N, bd⟩ := nx t' lt' rt' rp' sw' h2 gl2 R' A' B' TX' b' k' G' (z2.trans hx) (by omega)
  refine ⟨σ', ?_, bd⟩
  refine a_aload_1 rfl rfl ?_
  refine a_aload_0 rfl rfl ?_
  refine a_iload_3 rfl rfl ?_
  refine a_iconst (v := (nI 1)) rfl rfl rfl ?_
  refine a_iaddN rfl rfl ?_
  refine a_iald rfl rfl (Or.inr rfl) rfl (by omega) (by omega) ?_
  refine a_as (y := xs (i + 1)) (congrFun hx (i + 1)) ?_
  refine a_aload_0 rfl rfl ?_
  refine a_iload_3 rfl rfl ?_
  refine a_iconst (v := (nI 2)) rfl rfl rfl ?_
  refine a_iaddN rfl rfl ?_
  refine a_iald rfl rfl (Or.inr rfl) rfl (by omega) (by omega) ?_
  refine a_as (y := xs (i + 2)) (congrFun hx (i + 2)) ?_
  refine a_virtI rfl rfl (c1) (Nat.le_of_ble_eq_true rfl) ⟨rfl, rfl, rfl, rfl⟩ rfl rfl rfl (Nat.le_of_ble_eq_true rfl) rfl rfl ?_
  refine a_aload_2 rfl rfl ?_
  refine a_aload_0 rfl rfl ?_
  refine a_iload_3 rfl rfl ?_
  refine a_iconst (v := (nI 1)) rfl rfl rfl ?_
  refine a_iaddN rfl rfl ?_
  refine a_iald rfl rfl (Or.inr rfl) rfl (by omega) (by omega) ?_
  refine a_as (y := xs (i + 1)) (congrFun (z1.trans hx) (i + 1)) ?_
  refine a_aload_0 rfl rfl ?_
  refine a_iload_3 rfl rfl ?_
  refine a_iconst (v := (nI 2)) rfl rfl rfl ?_
  refine a_iaddN rfl rfl ?_
  refine a_iald rfl rfl (Or.inr rfl) rfl (by omega) (by omega) ?_
  refine a_as (y := xs (i + 2)) (congrFun (z1.trans hx) (i + 2)) ?_
  refine a_virtI rfl rfl (c2) (Nat.le_of_ble_eq_true rfl) ⟨rfl, rfl, rfl, rfl⟩ rfl rfl rfl (Nat.le_of_ble_eq_true rfl) rfl rfl ?_
  refine a_cmp_eq rfl rfl rfl (fun _ => ?_) (fun c_1244 => by first | exact absurd rfl c_1244 | exact absurd c_1244 rfl)
  exact N
theorem lc_35 (hi : i + 6 ≤ L) (hL : L ≤ 3072) (G : GG A B TX R t lt b k h) (hx : h 0 = xs) (hR : R + 1440 < 67108864) (nx : nxW L i R xs) : wl L i 1249 (sX L t lt rt rp sw h gl) := by
  obtain ⟨v, t', lt', rt', rp', sw', h1, gl1, h2, gl2, R', A', B', TX', b', k', c1, c2, z1, z2, G', rr⟩ := (st_lease (xs (i + 1)) (xs (i + 2)) (xs (i + 3))) L t lt rt rp sw h gl R A B TX b k G (by omega)
  obtain ⟨σ', N, bd⟩ := nx t' lt' rt' rp' sw' h2 gl2 R' A' B' TX' b' k' G' (z2.trans hx) (by omega)
  refine ⟨σ', ?_, bd⟩
  refine a_aload_1 rfl rfl ?_
  refine a_aload_0 rfl rfl ?_
  refine a_iload_3 rfl rfl ?_
  refine a_iconst (v := (nI 1)) rfl rfl rfl ?_
  refine a_iaddN rfl rfl ?_
  refine a_iald rfl rfl (Or.inr rfl) rfl (by omega) (by omega) ?_
  refine a_as (y := xs (i + 1)) (congrFun hx (i + 1)) ?_
  refine a_aload_0 rfl rfl ?_
  refine a_iload_3 rfl rfl ?_
  refine a_iconst (v := (nI 2)) rfl rfl rfl ?_
  refine a_iaddN rfl rfl ?_
  refine a_iald rfl rfl (Or.inr rfl) rfl (by omega) (by omega) ?_
  refine a_as (y := xs (i + 2)) (congrFun hx (i + 2)) ?_
  refine a_aload_0 rfl rfl ?_
  refine a_iload_3 rfl rfl ?_
  refine a_iconst (v := (nI 3)) rfl rfl rfl ?_
  refine a_iaddN rfl rfl ?_
  refine a_iald rfl rfl (Or.inr rfl) rfl (by omega) (by omega) ?_
  refine a_as (y := xs (i + 3)) (congrFun hx (i + 3)) ?_
  refine a_virtI rfl rfl (c1) (Nat.le_of_ble_eq_true rfl) ⟨rfl, rfl, rfl, rfl⟩ rfl rfl rfl (Nat.le_of_ble_eq_true rfl) rfl rfl ?_
  refine a_aload_2 rfl rfl ?_
  refine a_aload_0 rfl rfl ?_
  refine a_iload_3 rfl rfl ?_
  refine a_iconst (v := (nI 1)) rfl rfl rfl ?_
  refine a_iaddN rfl rfl ?_
  refine a_iald rfl rfl (Or.inr rfl) rfl (by omega) (by omega) ?_
  refine a_as (y := xs (i + 1)) (congrFun (z1.trans hx) (i + 1)) ?_
  refine a_aload_0 rfl rfl ?_
  refine a_iload_3 rfl rfl ?_
  refine a_iconst (v := (nI 2)) rfl rfl rfl ?_
  refine a_iaddN rfl rfl ?_
  refine a_iald rfl rfl (Or.inr rfl) rfl (by omega) (by omega) ?_
  refine a_as (y := xs (i + 2)) (congrFun (z1.trans hx) (i + 2)) ?_
  refine a_aload_0 rfl rfl ?_
  refine a_iload_3 rfl rfl ?_
  refine a_iconst (v := (nI 3)) rfl rfl rfl ?_
  refine a_iaddN rfl rfl ?_
  refine a_iald rfl rfl (Or.inr rfl) rfl (by omega) (by omega) ?_
  refine a_as (y := xs (i + 3)) (congrFun (z1.trans hx) (i + 3)) ?_
  refine a_virtI rfl rfl (c2) (Nat.le_of_ble_eq_true rfl) ⟨rfl, rfl, rfl, rfl⟩ rfl rfl rfl (Nat.le_of_ble_eq_true rfl) rfl rfl ?_
  refine a_cmp_eq rfl rfl rfl (fun _ => ?_) (fun c_1287 => by first | exact absurd rfl c_1287 | exact absurd c_1287 rfl)
  exact N
theorem lc_36 (hi : i + 6 ≤ L) (hL : L ≤ 3072) (G : GG A B TX R t lt b k h) (hx : h 0 = xs) (hR : R + 1440 < 67108864) (nx : nxW L i R xs) : wl L i 1292 (sX L t lt rt rp sw h gl) := by
  obtain ⟨v, t', lt', rt', rp', sw', h1, gl1, h2, gl2, R', A', B', TX', b', k', c1, c2, z1, z2, G', rr⟩ := (st_read (xs (i + 1)) (xs (i + 2))) L t lt rt rp sw h gl R A B TX b k G (by omega)
  obtain ⟨σ', N, bd⟩ := nx t' lt' rt' rp' sw' h2 gl2 R' A' B' TX' b' k' G' (z2.trans hx) (by omega)
  refine ⟨σ', ?_, bd⟩
  refine a_aload_1 rfl rfl ?_
  refine a_aload_0 rfl rfl ?_
  refine a_iload_3 rfl rfl ?_
  refine a_iconst (v := (nI 1)) rfl rfl rfl ?_
  refine a_iaddN rfl rfl ?_
  refine a_iald rfl rfl (Or.inr rfl) rfl (by omega) (by omega) ?_
  refine a_as (y := xs (i + 1)) (congrFun hx (i + 1)) ?_
  refine a_aload_0 rfl rfl ?_
  refine a_iload_3 rfl rfl ?_
  refine a_iconst (v := (nI 2)) rfl rfl rfl ?_
  refine a_iaddN rfl rfl ?_
  refine a_iald rfl rfl (Or.inr rfl) rfl (by omega) (by omega) ?_
  refine a_as (y := xs (i + 2)) (congrFun hx (i + 2)) ?_
  refine a_virtI rfl rfl (c1) (Nat.le_of_ble_eq_true rfl) ⟨rfl, rfl, rfl, rfl⟩ rfl rfl rfl (Nat.le_of_ble_eq_true rfl) rfl rfl ?_
  refine a_aload_2 rfl rfl ?_
  refine a_aload_0 rfl rfl ?_
  refine a_iload_3 rfl rfl ?_
  refine a_iconst (v := (nI 1)) rfl rfl rfl ?_
  refine a_iaddN rfl rfl ?_
  refine a_iald rfl rfl (Or.inr rfl) rfl (by omega) (by omega) ?_
  refine a_as (y := xs (i + 1)) (congrFun (z1.trans hx) (i + 1)) ?_
  refine a_aload_0 rfl rfl ?_
  refine a_iload_3 rfl rfl ?_
  refine a_iconst (v := (nI 2)) rfl rfl rfl ?_
  refine a_iaddN rfl rfl ?_
  refine a_iald rfl rfl (Or.inr rfl) rfl (by omega) (by omega) ?_
  refine a_as (y := xs (i + 2)) (congrFun (z1.trans hx) (i + 2)) ?_
  refine a_virtI rfl rfl (c2) (Nat.le_of_ble_eq_true rfl) ⟨rfl, rfl, rfl, rfl⟩ rfl rfl rfl (Nat.le_of_ble_eq_true rfl) rfl rfl ?_
  refine a_cmp_eq rfl rfl rfl (fun _ => ?_) (fun c_1320 => by first | exact absurd rfl c_1320 | exact absurd c_1320 rfl)
  exact N
theorem lc_37 (hi : i + 6 ≤ L) (hL : L ≤ 3072) (G : GG A B TX R t lt b k h) (hx : h 0 = xs) (hR : R + 1440 < 67108864) (nx : nxW L i R xs) : wl L i 1325 (sX L t lt rt rp sw h gl) := by
  obtain ⟨v, t', lt', rt', rp', sw', h1, gl1, h2, gl2, R', A', B', TX', b', k', c1, c2, z1, z2, G', rr⟩ := (st_whose) L t lt rt rp sw h gl R A B TX b k G (by omega)
  obtain ⟨σ', N, bd⟩ := nx t' lt' rt' rp' sw' h2 gl2 R' A' B' TX' b' k' G' (z2.trans hx) (by omega)
  refine ⟨σ', ?_, bd⟩
  refine a_aload_1 rfl rfl ?_
  refine a_virtI rfl rfl (c1) (Nat.le_of_ble_eq_true rfl) ⟨rfl, rfl, rfl, rfl⟩ rfl rfl rfl (Nat.le_of_ble_eq_true rfl) rfl rfl ?_
  refine a_aload_2 rfl rfl ?_
  refine a_virtI rfl rfl (c2) (Nat.le_of_ble_eq_true rfl) ⟨rfl, rfl, rfl, rfl⟩ rfl rfl rfl (Nat.le_of_ble_eq_true rfl) rfl rfl ?_
  refine a_cmp_eq rfl rfl rfl (fun _ => ?_) (fun c_1333 => by first | exact absurd rfl c_1333 | exact absurd c_1333 rfl)
  exact N
theorem lc_38 (hi : i + 6 ≤ L) (hL : L ≤ 3072) (G : GG A B TX R t lt b k h) (hx : h 0 = xs) (hR : R + 1440 < 67108864) (nx : nxW L i R xs) : wl L i 1338 (sX L t lt rt rp sw h gl) := by
  obtain ⟨v, t', lt', rt', rp', sw', h1, gl1, h2, gl2, R', A', B', TX', b', k', c1, c2, z1, z2, G', rr⟩ := (st_till (xs (i + 1))) L t lt rt rp sw h gl R A B TX b k G (by omega)
  obtain ⟨σ', N, bd⟩ := nx t' lt' rt' rp' sw' h2 gl2 R' A' B' TX' b' k' G' (z2.trans hx) (by omega)
  refine ⟨σ', ?_, bd⟩
  refine a_aload_1 rfl rfl ?_
  refine a_aload_0 rfl rfl ?_
  refine a_iload_3 rfl rfl ?_
  refine a_iconst (v := (nI 1)) rfl rfl rfl ?_
  refine a_iaddN rfl rfl ?_
  refine a_iald rfl rfl (Or.inr rfl) rfl (by omega) (by omega) ?_
  refine a_as (y := xs (i + 1)) (congrFun hx (i + 1)) ?_
  refine a_virtI rfl rfl (c1) (Nat.le_of_ble_eq_true rfl) ⟨rfl, rfl, rfl, rfl⟩ rfl rfl rfl (Nat.le_of_ble_eq_true rfl) rfl rfl ?_
  refine a_aload_2 rfl rfl ?_
  refine a_aload_0 rfl rfl ?_
  refine a_iload_3 rfl rfl ?_
  refine a_iconst (v := (nI 1)) rfl rfl rfl ?_
  refine a_iaddN rfl rfl ?_
  refine a_iald rfl rfl (Or.inr rfl) rfl (by omega) (by omega) ?_
  refine a_as (y := xs (i + 1)) (congrFun (z1.trans hx) (i + 1)) ?_
  refine a_virtI rfl rfl (c2) (Nat.le_of_ble_eq_true rfl) ⟨rfl, rfl, rfl, rfl⟩ rfl rfl rfl (Nat.le_of_ble_eq_true rfl) rfl rfl ?_
  refine a_cmp_eq rfl rfl rfl (fun _ => ?_) (fun c_1356 => by first | exact absurd rfl c_1356 | exact absurd c_1356 rfl)
  exact N
theorem lc_39 (hi : i + 6 ≤ L) (hL : L ≤ 3072) (G : GG A B TX R t lt b k h) (hx : h 0 = xs) (hR : R + 1440 < 67108864) (nx : nxW L i R xs) : wl L i 1361 (sX L t lt rt rp sw h gl) := by
  obtain ⟨v, t', lt', rt', rp', sw', h1, gl1, h2, gl2, R', A', B', TX', b', k', c1, c2, z1, z2, G', rr⟩ := (st_brightest) L t lt rt rp sw h gl R A B TX b k G (by omega)
  obtain ⟨σ', N, bd⟩ := nx t' lt' rt' rp' sw' h2 gl2 R' A' B' TX' b' k' G' (z2.trans hx) (by omega)
  refine ⟨σ', ?_, bd⟩
  refine a_aload_1 rfl rfl ?_
  refine a_virtI rfl rfl (c1) (Nat.le_of_ble_eq_true rfl) ⟨rfl, rfl, rfl, rfl⟩ rfl rfl rfl (Nat.le_of_ble_eq_true rfl) rfl rfl ?_
  refine a_aload_2 rfl rfl ?_
  refine a_virtI rfl rfl (c2) (Nat.le_of_ble_eq_true rfl) ⟨rfl, rfl, rfl, rfl⟩ rfl rfl rfl (Nat.le_of_ble_eq_true rfl) rfl rfl ?_
  refine a_cmp_eq rfl rfl rfl (fun _ => ?_) (fun c_1369 => by first | exact absurd rfl c_1369 | exact absurd c_1369 rfl)
  exact N
theorem lc_40 (hi : i + 6 ≤ L) (hL : L ≤ 3072) (G : GG A B TX R t lt b k h) (hx : h 0 = xs) (hR : R + 1440 < 67108864) (nx : nxW L i R xs) : wl L i 1374 (sX L t lt rt rp sw h gl) := by
  obtain ⟨v, t', lt', rt', rp', sw', h1, gl1, h2, gl2, R', A', B', TX', b', k', c1, c2, z1, z2, G', rr⟩ := (st_wildest) L t lt rt rp sw h gl R A B TX b k G (by omega)
  obtain ⟨σ', N, bd⟩ := nx t' lt' rt' rp' sw' h2 gl2 R' A' B' TX' b' k' G' (z2.trans hx) (by omega)
  refine ⟨σ', ?_, bd⟩
  refine a_aload_1 rfl rfl ?_
  refine a_virtI rfl rfl (c1) (Nat.le_of_ble_eq_true rfl) ⟨rfl, rfl, rfl, rfl⟩ rfl rfl rfl (Nat.le_of_ble_eq_true rfl) rfl rfl ?_
  refine a_aload_2 rfl rfl ?_
  refine a_virtI rfl rfl (c2) (Nat.le_of_ble_eq_true rfl) ⟨rfl, rfl, rfl, rfl⟩ rfl rfl rfl (Nat.le_of_ble_eq_true rfl) rfl rfl ?_
  refine a_cmp_eq rfl rfl rfl (fun _ => ?_) (fun c_1382 => by first | exact absurd rfl c_1382 | exact absurd c_1382 rfl)
  exact N
theorem lc_41 (hi : i + 6 ≤ L) (hL : L ≤ 3072) (G : GG A B TX R t lt b k h) (hx : h 0 = xs) (hR : R + 1440 < 67108864) (nx : nxW L i R xs) : wl L i 1387 (sX L t lt rt rp sw h gl) := by
  obtain ⟨v, t', lt', rt', rp', sw', h1, gl1, h2, gl2, R', A', B', TX', b', k', c1, c2, z1, z2, G', rr⟩ := (st_lonely) L t lt rt rp sw h gl R A B TX b k G (by omega)
  obtain ⟨σ', N, bd⟩ := nx t' lt' rt' rp' sw' h2 gl2 R' A' B' TX' b' k' G' (z2.trans hx) (by omega)
  refine ⟨σ', ?_, bd⟩
  refine a_aload_1 rfl rfl ?_
  refine a_virtI rfl rfl (c1) (Nat.le_of_ble_eq_true rfl) ⟨rfl, rfl, rfl, rfl⟩ rfl rfl rfl (Nat.le_of_ble_eq_true rfl) rfl rfl ?_
  refine a_aload_2 rfl rfl ?_
  refine a_virtI rfl rfl (c2) (Nat.le_of_ble_eq_true rfl) ⟨rfl, rfl, rfl, rfl⟩ rfl rfl rfl (Nat.le_of_ble_eq_true rfl) rfl rfl ?_
  refine a_cmp_eq rfl rfl rfl (fun _ => ?_) (fun c_1395 => by first | exact absurd rfl c_1395 | exact absurd c_1395 rfl)
  exact N
theorem lc_42 (hi : i + 6 ≤ L) (hL : L ≤ 3072) (G : GG A B TX R t lt b k h) (hx : h 0 = xs) (hR : R + 1440 < 67108864) (nx : nxW L i R xs) : wl L i 1400 (sX L t lt rt rp sw h gl) := by
  obtain ⟨v, t', lt', rt', rp', sw', h1, gl1, h2, gl2, R', A', B', TX', b', k', c1, c2, z1, z2, G', rr⟩ := (st_ledger (xs (i + 1))) L t lt rt rp sw h gl R A B TX b k G (by omega)
  obtain ⟨σ', N, bd⟩ := nx t' lt' rt' rp' sw' h2 gl2 R' A' B' TX' b' k' G' (z2.trans hx) (by omega)
  refine ⟨σ', ?_, bd⟩
  refine a_aload_1 rfl rfl ?_
  refine a_aload_0 rfl rfl ?_
  refine a_iload_3 rfl rfl ?_
  refine a_iconst (v := (nI 1)) rfl rfl rfl ?_
  refine a_iaddN rfl rfl ?_
  refine a_iald rfl rfl (Or.inr rfl) rfl (by omega) (by omega) ?_
  refine a_as (y := xs (i + 1)) (congrFun hx (i + 1)) ?_
  refine a_virtI rfl rfl (c1) (Nat.le_of_ble_eq_true rfl) ⟨rfl, rfl, rfl, rfl⟩ rfl rfl rfl (Nat.le_of_ble_eq_true rfl) rfl rfl ?_
  refine a_aload_2 rfl rfl ?_
  refine a_aload_0 rfl rfl ?_
  refine a_iload_3 rfl rfl ?_
  refine a_iconst (v := (nI 1)) rfl rfl rfl ?_
  refine a_iaddN rfl rfl ?_
  refine a_iald rfl rfl (Or.inr rfl) rfl (by omega) (by omega) ?_
  refine a_as (y := xs (i + 1)) (congrFun (z1.trans hx) (i + 1)) ?_
  refine a_virtI rfl rfl (c2) (Nat.le_of_ble_eq_true rfl) ⟨rfl, rfl, rfl, rfl⟩ rfl rfl rfl (Nat.le_of_ble_eq_true rfl) rfl rfl ?_
  refine a_cmp_eq rfl rfl rfl (fun _ => ?_) (fun c_1418 => by first | exact absurd rfl c_1418 | exact absurd c_1418 rfl)
  exact N
theorem lc_43 (hi : i + 6 ≤ L) (hL : L ≤ 3072) (G : GG A B TX R t lt b k h) (hx : h 0 = xs) (hR : R + 1440 < 67108864) (nx : nxW L i R xs) : wl L i 1423 (sX L t lt rt rp sw h gl) := by
  obtain ⟨v, t', lt', rt', rp', sw', h1, gl1, h2, gl2, R', A', B', TX', b', k', c1, c2, z1, z2, G', rr⟩ := (st_image) L t lt rt rp sw h gl R A B TX b k G (by omega)
  obtain ⟨σ', N, bd⟩ := nx t' lt' rt' rp' sw' h2 gl2 R' A' B' TX' b' k' G' (z2.trans hx) (by omega)
  refine ⟨σ', ?_, bd⟩
  refine a_aload_1 rfl rfl ?_
  refine a_virtI rfl rfl (c1) (Nat.le_of_ble_eq_true rfl) ⟨rfl, rfl, rfl, rfl⟩ rfl rfl rfl (Nat.le_of_ble_eq_true rfl) rfl rfl ?_
  refine a_aload_2 rfl rfl ?_
  refine a_virtI rfl rfl (c2) (Nat.le_of_ble_eq_true rfl) ⟨rfl, rfl, rfl, rfl⟩ rfl rfl rfl (Nat.le_of_ble_eq_true rfl) rfl rfl ?_
  refine a_cmp_eq rfl rfl rfl (fun _ => ?_) (fun c_1431 => by first | exact absurd rfl c_1431 | exact absurd c_1431 rfl)
  exact N
theorem lc_44 (hi : i + 6 ≤ L) (hL : L ≤ 3072) (G : GG A B TX R t lt b k h) (hx : h 0 = xs) (hR : R + 1440 < 67108864) (nx : nxW L i R xs) : wl L i 1436 (sX L t lt rt rp sw h gl) := by
  obtain ⟨v, t', lt', rt', rp', sw', h1, gl1, h2, gl2, R', A', B', TX', b', k', c1, c2, z1, z2, G', rr⟩ := (st_back) L t lt rt rp sw h gl R A B TX b k G (by omega)
  obtain ⟨σ', N, bd⟩ := nx t' lt' rt' rp' sw' h2 gl2 R' A' B' TX' b' k' G' (z2.trans hx) (by omega)
  refine ⟨σ', ?_, bd⟩
  refine a_aload_1 rfl rfl ?_
  refine a_virtI rfl rfl (c1) (Nat.le_of_ble_eq_true rfl) ⟨rfl, rfl, rfl, rfl⟩ rfl rfl rfl (Nat.le_of_ble_eq_true rfl) rfl rfl ?_
  refine a_aload_2 rfl rfl ?_
  refine a_virtI rfl rfl (c2) (Nat.le_of_ble_eq_true rfl) ⟨rfl, rfl, rfl, rfl⟩ rfl rfl rfl (Nat.le_of_ble_eq_true rfl) rfl rfl ?_
  refine a_cmp_eq rfl rfl rfl (fun _ => ?_) (fun c_1444 => by first | exact absurd rfl c_1444 | exact absurd c_1444 rfl)
  exact N
theorem lc_45 (hi : i + 6 ≤ L) (hL : L ≤ 3072) (G : GG A B TX R t lt b k h) (hx : h 0 = xs) (hR : R + 1440 < 67108864) (nx : nxW L i R xs) : wl L i 1449 (sX L t lt rt rp sw h gl) := by
  obtain ⟨v, t', lt', rt', rp', sw', h1, gl1, h2, gl2, R', A', B', TX', b', k', c1, c2, z1, z2, G', rr⟩ := (st_about (xs (i + 1))) L t lt rt rp sw h gl R A B TX b k G (by omega)
  obtain ⟨σ', N, bd⟩ := nx t' lt' rt' rp' sw' h2 gl2 R' A' B' TX' b' k' G' (z2.trans hx) (by omega)
  refine ⟨σ', ?_, bd⟩
  refine a_aload_1 rfl rfl ?_
  refine a_aload_0 rfl rfl ?_
  refine a_iload_3 rfl rfl ?_
  refine a_iconst (v := (nI 1)) rfl rfl rfl ?_
  refine a_iaddN rfl rfl ?_
  refine a_iald rfl rfl (Or.inr rfl) rfl (by omega) (by omega) ?_
  refine a_as (y := xs (i + 1)) (congrFun hx (i + 1)) ?_
  refine a_virtI rfl rfl (c1) (Nat.le_of_ble_eq_true rfl) ⟨rfl, rfl, rfl, rfl⟩ rfl rfl rfl (Nat.le_of_ble_eq_true rfl) rfl rfl ?_
  refine a_aload_2 rfl rfl ?_
  refine a_aload_0 rfl rfl ?_
  refine a_iload_3 rfl rfl ?_
  refine a_iconst (v := (nI 1)) rfl rfl rfl ?_
  refine a_iaddN rfl rfl ?_
  refine a_iald rfl rfl (Or.inr rfl) rfl (by omega) (by omega) ?_
  refine a_as (y := xs (i + 1)) (congrFun (z1.trans hx) (i + 1)) ?_
  refine a_virtI rfl rfl (c2) (Nat.le_of_ble_eq_true rfl) ⟨rfl, rfl, rfl, rfl⟩ rfl rfl rfl (Nat.le_of_ble_eq_true rfl) rfl rfl ?_
  refine a_cmp_eq rfl rfl rfl (fun _ => ?_) (fun c_1467 => by first | exact absurd rfl c_1467 | exact absurd c_1467 rfl)
  exact N
theorem lc_sw (hi : i + 6 ≤ L) (hL : L ≤ 3072) (G : GG A B TX R t lt b k h) (hx : h 0 = xs) (hR : R + 1440 < 67108864) (nx : nxW L i R xs) : wl L i 27 (sX L t lt rt rp sw h gl) := by
  obtain ⟨v, v1, v2⟩ := and_low (xs i) 63
  by_cases c : v < 46
  · match v, c, v1, v2 with
    | 0, _, _, v2 =>
      obtain ⟨σ', N, bd⟩ := lc_0 (gl := gl) (rt := rt) (rp := rp) (sw := sw) hi hL G hx hR nx
      refine ⟨σ', ?_, bd⟩
      refine a_aload_0 rfl rfl ?_
      refine a_iload_3 rfl rfl ?_
      refine a_iald rfl rfl (Or.inr rfl) rfl (by omega) (by omega) ?_
      refine a_as (y := xs i) (congrFun hx i) ?_
      refine a_bipush (v := (nI 63)) rfl rfl rfl ?_
      refine a_iand rfl rfl ?_
      refine a_as (y := nI (0)) v2 ?_
      refine a_tabIn rfl (by decide) rfl rfl ?_
      exact N
    | 1, _, _, v2 =>
      obtain ⟨σ', N, bd⟩ := lc_1 (gl := gl) (rt := rt) (rp := rp) (sw := sw) hi hL G hx hR nx
      refine ⟨σ', ?_, bd⟩
      refine a_aload_0 rfl rfl ?_
      refine a_iload_3 rfl rfl ?_
      refine a_iald rfl rfl (Or.inr rfl) rfl (by omega) (by omega) ?_
      refine a_as (y := xs i) (congrFun hx i) ?_
      refine a_bipush (v := (nI 63)) rfl rfl rfl ?_
      refine a_iand rfl rfl ?_
      refine a_as (y := nI (1)) v2 ?_
      refine a_tabIn rfl (by decide) rfl rfl ?_
      exact N
    | 2, _, _, v2 =>
      obtain ⟨σ', N, bd⟩ := lc_2 (gl := gl) (rt := rt) (rp := rp) (sw := sw) hi hL G hx hR nx
      refine ⟨σ', ?_, bd⟩
      refine a_aload_0 rfl rfl ?_
      refine a_iload_3 rfl rfl ?_
      refine a_iald rfl rfl (Or.inr rfl) rfl (by omega) (by omega) ?_
      refine a_as (y := xs i) (congrFun hx i) ?_
      refine a_bipush (v := (nI 63)) rfl rfl rfl ?_
      refine a_iand rfl rfl ?_
      refine a_as (y := nI (2)) v2 ?_
      refine a_tabIn rfl (by decide) rfl rfl ?_
      exact N
    | 3, _, _, v2 =>
      obtain ⟨σ', N, bd⟩ := lc_3 (gl := gl) (rt := rt) (rp := rp) (sw := sw) hi hL G hx hR nx
      refine ⟨σ', ?_, bd⟩
      refine a_aload_0 rfl rfl ?_
      refine a_iload_3 rfl rfl ?_
      refine a_iald rfl rfl (Or.inr rfl) rfl (by omega) (by omega) ?_
      refine a_as (y := xs i) (congrFun hx i) ?_
      refine a_bipush (v := (nI 63)) rfl rfl rfl ?_
      refine a_iand rfl rfl ?_
      refine a_as (y := nI (3)) v2 ?_
      refine a_tabIn rfl (by decide) rfl rfl ?_
      exact N
    | 4, _, _, v2 =>
      obtain ⟨σ', N, bd⟩ := lc_4 (gl := gl) (rt := rt) (rp := rp) (sw := sw) hi hL G hx hR nx
      refine ⟨σ', ?_, bd⟩
      refine a_aload_0 rfl rfl ?_
      refine a_iload_3 rfl rfl ?_
      refine a_iald rfl rfl (Or.inr rfl) rfl (by omega) (by omega) ?_
      refine a_as (y := xs i) (congrFun hx i) ?_
      refine a_bipush (v := (nI 63)) rfl rfl rfl ?_
      refine a_iand rfl rfl ?_
      refine a_as (y := nI (4)) v2 ?_
      refine a_tabIn rfl (by decide) rfl rfl ?_
      exact N
    | 5, _, _, v2 =>
      obtain ⟨σ', N, bd⟩ := lc_5 (gl := gl) (rt := rt) (rp := rp) (sw := sw) hi hL G hx hR nx
      refine ⟨σ', ?_, bd⟩
      refine a_aload_0 rfl rfl ?_
      refine a_iload_3 rfl rfl ?_
      refine a_iald rfl rfl (Or.inr rfl) rfl (by omega) (by omega) ?_
      refine a_as (y := xs i) (congrFun hx i) ?_
      refine a_bipush (v := (nI 63)) rfl rfl rfl ?_
      refine a_iand rfl rfl ?_
      refine a_as (y := nI (5)) v2 ?_
      refine a_tabIn rfl (by decide) rfl rfl ?_
      exact N
    | 6, _, _, v2 =>
      obtain ⟨σ', N, bd⟩ := lc_6 (gl := gl) (rt := rt) (rp := rp) (sw := sw) hi hL G hx hR nx
      refine ⟨σ', ?_, bd⟩
      refine a_aload_0 rfl rfl ?_
      refine a_iload_3 rfl rfl ?_
      refine a_iald rfl rfl (Or.inr rfl) rfl (by omega) (by omega) ?_
      refine a_as (y := xs i) (congrFun hx i) ?_
      refine a_bipush (v := (nI 63)) rfl rfl rfl ?_
      refine a_iand rfl rfl ?_
      refine a_as (y := nI (6)) v2 ?_
      refine a_tabIn rfl (by decide) rfl rfl ?_
      exact N
    | 7, _, _, v2 =>
      obtain ⟨σ', N, bd⟩ := lc_7 (gl := gl) (rt := rt) (rp := rp) (sw := sw) hi hL G hx hR nx
      refine ⟨σ', ?_, bd⟩
      refine a_aload_0 rfl rfl ?_
      refine a_iload_3 rfl rfl ?_
      refine a_iald rfl rfl (Or.inr rfl) rfl (by omega) (by omega) ?_
      refine a_as (y := xs i) (congrFun hx i) ?_
      refine a_bipush (v := (nI 63)) rfl rfl rfl ?_
      refine a_iand rfl rfl ?_
      refine a_as (y := nI (7)) v2 ?_
      refine a_tabIn rfl (by decide) rfl rfl ?_
      exact N
    | 8, _, _, v2 =>
      obtain ⟨σ', N, bd⟩ := lc_8 (gl := gl) (rt := rt) (rp := rp) (sw := sw) hi hL G hx hR nx
      refine ⟨σ', ?_, bd⟩
      refine a_aload_0 rfl rfl ?_
      refine a_iload_3 rfl rfl ?_
      refine a_iald rfl rfl (Or.inr rfl) rfl (by omega) (by omega) ?_
      refine a_as (y := xs i) (congrFun hx i) ?_
      refine a_bipush (v := (nI 63)) rfl rfl rfl ?_
      refine a_iand rfl rfl ?_
      refine a_as (y := nI (8)) v2 ?_
      refine a_tabIn rfl (by decide) rfl rfl ?_
      exact N
    | 9, _, _, v2 =>
      obtain ⟨σ', N, bd⟩ := lc_9 (gl := gl) (rt := rt) (rp := rp) (sw := sw) hi hL G hx hR nx
      refine ⟨σ', ?_, bd⟩
      refine a_aload_0 rfl rfl ?_
      refine a_iload_3 rfl rfl ?_
      refine a_iald rfl rfl (Or.inr rfl) rfl (by omega) (by omega) ?_
      refine a_as (y := xs i) (congrFun hx i) ?_
      refine a_bipush (v := (nI 63)) rfl rfl rfl ?_
      refine a_iand rfl rfl ?_
      refine a_as (y := nI (9)) v2 ?_
      refine a_tabIn rfl (by decide) rfl rfl ?_
      exact N
    | 10, _, _, v2 =>
      obtain ⟨σ', N, bd⟩ := lc_10 (gl := gl) (rt := rt) (rp := rp) (sw := sw) hi hL G hx hR nx
      refine ⟨σ', ?_, bd⟩
      refine a_aload_0 rfl rfl ?_
      refine a_iload_3 rfl rfl ?_
      refine a_iald rfl rfl (Or.inr rfl) rfl (by omega) (by omega) ?_
      refine a_as (y := xs i) (congrFun hx i) ?_
      refine a_bipush (v := (nI 63)) rfl rfl rfl ?_
      refine a_iand rfl rfl ?_
      refine a_as (y := nI (10)) v2 ?_
      refine a_tabIn rfl (by decide) rfl rfl ?_
      exact N
    | 11, _, _, v2 =>
      obtain ⟨σ', N, bd⟩ := lc_11 (gl := gl) (rt := rt) (rp := rp) (sw := sw) hi hL G hx hR nx
      refine ⟨σ', ?_, bd⟩
      refine a_aload_0 rfl rfl ?_
      refine a_iload_3 rfl rfl ?_
      refine a_iald rfl rfl (Or.inr rfl) rfl (by omega) (by omega) ?_
      refine a_as (y := xs i) (congrFun hx i) ?_
      refine a_bipush (v := (nI 63)) rfl rfl rfl ?_
      refine a_iand rfl rfl ?_
      refine a_as (y := nI (11)) v2 ?_
      refine a_tabIn rfl (by decide) rfl rfl ?_
      exact N
    | 12, _, _, v2 =>
      obtain ⟨σ', N, bd⟩ := lc_12 (gl := gl) (rt := rt) (rp := rp) (sw := sw) hi hL G hx hR nx
      refine ⟨σ', ?_, bd⟩
      refine a_aload_0 rfl rfl ?_
      refine a_iload_3 rfl rfl ?_
      refine a_iald rfl rfl (Or.inr rfl) rfl (by omega) (by omega) ?_
      refine a_as (y := xs i) (congrFun hx i) ?_
      refine a_bipush (v := (nI 63)) rfl rfl rfl ?_
      refine a_iand rfl rfl ?_
      refine a_as (y := nI (12)) v2 ?_
      refine a_tabIn rfl (by decide) rfl rfl ?_
      exact N
    | 13, _, _, v2 =>
      obtain ⟨σ', N, bd⟩ := lc_13 (gl := gl) (rt := rt) (rp := rp) (sw := sw) hi hL G hx hR nx
      refine ⟨σ', ?_, bd⟩
      refine a_aload_0 rfl rfl ?_
      refine a_iload_3 rfl rfl ?_
      refine a_iald rfl rfl (Or.inr rfl) rfl (by omega) (by omega) ?_
      refine a_as (y := xs i) (congrFun hx i) ?_
      refine a_bipush (v := (nI 63)) rfl rfl rfl ?_
      refine a_iand rfl rfl ?_
      refine a_as (y := nI (13)) v2 ?_
      refine a_tabIn rfl (by decide) rfl rfl ?_
      exact N
    | 14, _, _, v2 =>
      obtain ⟨σ', N, bd⟩ := lc_14 (gl := gl) (rt := rt) (rp := rp) (sw := sw) hi hL G hx hR nx
      refine ⟨σ', ?_, bd⟩
      refine a_aload_0 rfl rfl ?_
      refine a_iload_3 rfl rfl ?_
      refine a_iald rfl rfl (Or.inr rfl) rfl (by omega) (by omega) ?_
      refine a_as (y := xs i) (congrFun hx i) ?_
      refine a_bipush (v := (nI 63)) rfl rfl rfl ?_
      refine a_iand rfl rfl ?_
      refine a_as (y := nI (14)) v2 ?_
      refine a_tabIn rfl (by decide) rfl rfl ?_
      exact N
    | 15, _, _, v2 =>
      obtain ⟨σ', N, bd⟩ := lc_15 (gl := gl) (rt := rt) (rp := rp) (sw := sw) hi hL G hx hR nx
      refine ⟨σ', ?_, bd⟩
      refine a_aload_0 rfl rfl ?_
      refine a_iload_3 rfl rfl ?_
      refine a_iald rfl rfl (Or.inr rfl) rfl (by omega) (by omega) ?_
      refine a_as (y := xs i) (congrFun hx i) ?_
      refine a_bipush (v := (nI 63)) rfl rfl rfl ?_
      refine a_iand rfl rfl ?_
      refine a_as (y := nI (15)) v2 ?_
      refine a_tabIn rfl (by decide) rfl rfl ?_
      exact N
    | 16, _, _, v2 =>
      obtain ⟨σ', N, bd⟩ := lc_16 (gl := gl) (rt := rt) (rp := rp) (sw := sw) hi hL G hx hR nx
      refine ⟨σ', ?_, bd⟩
      refine a_aload_0 rfl rfl ?_
      refine a_iload_3 rfl rfl ?_
      refine a_iald rfl rfl (Or.inr rfl) rfl (by omega) (by omega) ?_
      refine a_as (y := xs i) (congrFun hx i) ?_
      refine a_bipush (v := (nI 63)) rfl rfl rfl ?_
      refine a_iand rfl rfl ?_
      refine a_as (y := nI (16)) v2 ?_
      refine a_tabIn rfl (by decide) rfl rfl ?_
      exact N
    | 17, _, _, v2 =>
      obtain ⟨σ', N, bd⟩ := lc_17 (gl := gl) (rt := rt) (rp := rp) (sw := sw) hi hL G hx hR nx
      refine ⟨σ', ?_, bd⟩
      refine a_aload_0 rfl rfl ?_
      refine a_iload_3 rfl rfl ?_
      refine a_iald rfl rfl (Or.inr rfl) rfl (by omega) (by omega) ?_
      refine a_as (y := xs i) (congrFun hx i) ?_
      refine a_bipush (v := (nI 63)) rfl rfl rfl ?_
      refine a_iand rfl rfl ?_
      refine a_as (y := nI (17)) v2 ?_
      refine a_tabIn rfl (by decide) rfl rfl ?_
      exact N
    | 18, _, _, v2 =>
      obtain ⟨σ', N, bd⟩ := lc_18 (gl := gl) (rt := rt) (rp := rp) (sw := sw) hi hL G hx hR nx
      refine ⟨σ', ?_, bd⟩
      refine a_aload_0 rfl rfl ?_
      refine a_iload_3 rfl rfl ?_
      refine a_iald rfl rfl (Or.inr rfl) rfl (by omega) (by omega) ?_
      refine a_as (y := xs i) (congrFun hx i) ?_
      refine a_bipush (v := (nI 63)) rfl rfl rfl ?_
      refine a_iand rfl rfl ?_
      refine a_as (y := nI (18)) v2 ?_
      refine a_tabIn rfl (by decide) rfl rfl ?_
      exact N
    | 19, _, _, v2 =>
      obtain ⟨σ', N, bd⟩ := lc_19 (gl := gl) (rt := rt) (rp := rp) (sw := sw) hi hL G hx hR nx
      refine ⟨σ', ?_, bd⟩
      refine a_aload_0 rfl rfl ?_
      refine a_iload_3 rfl rfl ?_
      refine a_iald rfl rfl (Or.inr rfl) rfl (by omega) (by omega) ?_
      refine a_as (y := xs i) (congrFun hx i) ?_
      refine a_bipush (v := (nI 63)) rfl rfl rfl ?_
      refine a_iand rfl rfl ?_
      refine a_as (y := nI (19)) v2 ?_
      refine a_tabIn rfl (by decide) rfl rfl ?_
      exact N
    | 20, _, _, v2 =>
      obtain ⟨σ', N, bd⟩ := lc_20 (gl := gl) (rt := rt) (rp := rp) (sw := sw) hi hL G hx hR nx
      refine ⟨σ', ?_, bd⟩
      refine a_aload_0 rfl rfl ?_
      refine a_iload_3 rfl rfl ?_
      refine a_iald rfl rfl (Or.inr rfl) rfl (by omega) (by omega) ?_
      refine a_as (y := xs i) (congrFun hx i) ?_
      refine a_bipush (v := (nI 63)) rfl rfl rfl ?_
      refine a_iand rfl rfl ?_
      refine a_as (y := nI (20)) v2 ?_
      refine a_tabIn rfl (by decide) rfl rfl ?_
      exact N
    | 21, _, _, v2 =>
      obtain ⟨σ', N, bd⟩ := lc_21 (gl := gl) (rt := rt) (rp := rp) (sw := sw) hi hL G hx hR nx
      refine ⟨σ', ?_, bd⟩
      refine a_aload_0 rfl rfl ?_
      refine a_iload_3 rfl rfl ?_
      refine a_iald rfl rfl (Or.inr rfl) rfl (by omega) (by omega) ?_
      refine a_as (y := xs i) (congrFun hx i) ?_
      refine a_bipush (v := (nI 63)) rfl rfl rfl ?_
      refine a_iand rfl rfl ?_
      refine a_as (y := nI (21)) v2 ?_
      refine a_tabIn rfl (by decide) rfl rfl ?_
      exact N
    | 22, _, _, v2 =>
      obtain ⟨σ', N, bd⟩ := lc_22 (gl := gl) (rt := rt) (rp := rp) (sw := sw) hi hL G hx hR nx
      refine ⟨σ', ?_, bd⟩
      refine a_aload_0 rfl rfl ?_
      refine a_iload_3 rfl rfl ?_
      refine a_iald rfl rfl (Or.inr rfl) rfl (by omega) (by omega) ?_
      refine a_as (y := xs i) (congrFun hx i) ?_
      refine a_bipush (v := (nI 63)) rfl rfl rfl ?_
      refine a_iand rfl rfl ?_
      refine a_as (y := nI (22)) v2 ?_
      refine a_tabIn rfl (by decide) rfl rfl ?_
      exact N
    | 23, _, _, v2 =>
      obtain ⟨σ', N, bd⟩ := lc_23 (gl := gl) (rt := rt) (rp := rp) (sw := sw) hi hL G hx hR nx
      refine ⟨σ', ?_, bd⟩
      refine a_aload_0 rfl rfl ?_
      refine a_iload_3 rfl rfl ?_
      refine a_iald rfl rfl (Or.inr rfl) rfl (by omega) (by omega) ?_
      refine a_as (y := xs i) (congrFun hx i) ?_
      refine a_bipush (v := (nI 63)) rfl rfl rfl ?_
      refine a_iand rfl rfl ?_
      refine a_as (y := nI (23)) v2 ?_
      refine a_tabIn rfl (by decide) rfl rfl ?_
      exact N
    | 24, _, _, v2 =>
      obtain ⟨σ', N, bd⟩ := lc_24 (gl := gl) (rt := rt) (rp := rp) (sw := sw) hi hL G hx hR nx
      refine ⟨σ', ?_, bd⟩
      refine a_aload_0 rfl rfl ?_
      refine a_iload_3 rfl rfl ?_
      refine a_iald rfl rfl (Or.inr rfl) rfl (by omega) (by omega) ?_
      refine a_as (y := xs i) (congrFun hx i) ?_
      refine a_bipush (v := (nI 63)) rfl rfl rfl ?_
      refine a_iand rfl rfl ?_
      refine a_as (y := nI (24)) v2 ?_
      refine a_tabIn rfl (by decide) rfl rfl ?_
      exact N
    | 25, _, _, v2 =>
      obtain ⟨σ', N, bd⟩ := lc_25 (gl := gl) (rt := rt) (rp := rp) (sw := sw) hi hL G hx hR nx
      refine ⟨σ', ?_, bd⟩
      refine a_aload_0 rfl rfl ?_
      refine a_iload_3 rfl rfl ?_
      refine a_iald rfl rfl (Or.inr rfl) rfl (by omega) (by omega) ?_
      refine a_as (y := xs i) (congrFun hx i) ?_
      refine a_bipush (v := (nI 63)) rfl rfl rfl ?_
      refine a_iand rfl rfl ?_
      refine a_as (y := nI (25)) v2 ?_
      refine a_tabIn rfl (by decide) rfl rfl ?_
      exact N
    | 26, _, _, v2 =>
      obtain ⟨σ', N, bd⟩ := lc_26 (gl := gl) (rt := rt) (rp := rp) (sw := sw) hi hL G hx hR nx
      refine ⟨σ', ?_, bd⟩
      refine a_aload_0 rfl rfl ?_
      refine a_iload_3 rfl rfl ?_
      refine a_iald rfl rfl (Or.inr rfl) rfl (by omega) (by omega) ?_
      refine a_as (y := xs i) (congrFun hx i) ?_
      refine a_bipush (v := (nI 63)) rfl rfl rfl ?_
      refine a_iand rfl rfl ?_
      refine a_as (y := nI (26)) v2 ?_
      refine a_tabIn rfl (by decide) rfl rfl ?_
      exact N
    | 27, _, _, v2 =>
      obtain ⟨σ', N, bd⟩ := lc_27 (gl := gl) (rt := rt) (rp := rp) (sw := sw) hi hL G hx hR nx
      refine ⟨σ', ?_, bd⟩
      refine a_aload_0 rfl rfl ?_
      refine a_iload_3 rfl rfl ?_
      refine a_iald rfl rfl (Or.inr rfl) rfl (by omega) (by omega) ?_
      refine a_as (y := xs i) (congrFun hx i) ?_
      refine a_bipush (v := (nI 63)) rfl rfl rfl ?_
      refine a_iand rfl rfl ?_
      refine a_as (y := nI (27)) v2 ?_
      refine a_tabIn rfl (by decide) rfl rfl ?_
      exact N
    | 28, _, _, v2 =>
      obtain ⟨σ', N, bd⟩ := lc_28 (gl := gl) (rt := rt) (rp := rp) (sw := sw) hi hL G hx hR nx
      refine ⟨σ', ?_, bd⟩
      refine a_aload_0 rfl rfl ?_
      refine a_iload_3 rfl rfl ?_
      refine a_iald rfl rfl (Or.inr rfl) rfl (by omega) (by omega) ?_
      refine a_as (y := xs i) (congrFun hx i) ?_
      refine a_bipush (v := (nI 63)) rfl rfl rfl ?_
      refine a_iand rfl rfl ?_
      refine a_as (y := nI (28)) v2 ?_
      refine a_tabIn rfl (by decide) rfl rfl ?_
      exact N
    | 29, _, _, v2 =>
      obtain ⟨σ', N, bd⟩ := lc_29 (gl := gl) (rt := rt) (rp := rp) (sw := sw) hi hL G hx hR nx
      refine ⟨σ', ?_, bd⟩
      refine a_aload_0 rfl rfl ?_
      refine a_iload_3 rfl rfl ?_
      refine a_iald rfl rfl (Or.inr rfl) rfl (by omega) (by omega) ?_
      refine a_as (y := xs i) (congrFun hx i) ?_
      refine a_bipush (v := (nI 63)) rfl rfl rfl ?_
      refine a_iand rfl rfl ?_
      refine a_as (y := nI (29)) v2 ?_
      refine a_tabIn rfl (by decide) rfl rfl ?_
      exact N
    | 30, _, _, v2 =>
      obtain ⟨σ', N, bd⟩ := lc_30 (gl := gl) (rt := rt) (rp := rp) (sw := sw) hi hL G hx hR nx
      refine ⟨σ', ?_, bd⟩
      refine a_aload_0 rfl rfl ?_
      refine a_iload_3 rfl rfl ?_
      refine a_iald rfl rfl (Or.inr rfl) rfl (by omega) (by omega) ?_
      refine a_as (y := xs i) (congrFun hx i) ?_
      refine a_bipush (v := (nI 63)) rfl rfl rfl ?_
      refine a_iand rfl rfl ?_
      refine a_as (y := nI (30)) v2 ?_
      refine a_tabIn rfl (by decide) rfl rfl ?_
      exact N
    | 31, _, _, v2 =>
      obtain ⟨σ', N, bd⟩ := lc_31 (gl := gl) (rt := rt) (rp := rp) (sw := sw) hi hL G hx hR nx
      refine ⟨σ', ?_, bd⟩
      refine a_aload_0 rfl rfl ?_
      refine a_iload_3 rfl rfl ?_
      refine a_iald rfl rfl (Or.inr rfl) rfl (by omega) (by omega) ?_
      refine a_as (y := xs i) (congrFun hx i) ?_
      refine a_bipush (v := (nI 63)) rfl rfl rfl ?_
      refine a_iand rfl rfl ?_
      refine a_as (y := nI (31)) v2 ?_
      refine a_tabIn rfl (by decide) rfl rfl ?_
      exact N
    | 32, _, _, v2 =>
      obtain ⟨σ', N, bd⟩ := lc_32 (gl := gl) (rt := rt) (rp := rp) (sw := sw) hi hL G hx hR nx
      refine ⟨σ', ?_, bd⟩
      refine a_aload_0 rfl rfl ?_
      refine a_iload_3 rfl rfl ?_
      refine a_iald rfl rfl (Or.inr rfl) rfl (by omega) (by omega) ?_
      refine a_as (y := xs i) (congrFun hx i) ?_
      refine a_bipush (v := (nI 63)) rfl rfl rfl ?_
      refine a_iand rfl rfl ?_
      refine a_as (y := nI (32)) v2 ?_
      refine a_tabIn rfl (by decide) rfl rfl ?_
      exact N
    | 33, _, _, v2 =>
      obtain ⟨σ', N, bd⟩ := lc_33 (gl := gl) (rt := rt) (rp := rp) (sw := sw) hi hL G hx hR nx
      refine ⟨σ', ?_, bd⟩
      refine a_aload_0 rfl rfl ?_
      refine a_iload_3 rfl rfl ?_
      refine a_iald rfl rfl (Or.inr rfl) rfl (by omega) (by omega) ?_
      refine a_as (y := xs i) (congrFun hx i) ?_
      refine a_bipush (v := (nI 63)) rfl rfl rfl ?_
      refine a_iand rfl rfl ?_
      refine a_as (y := nI (33)) v2 ?_
      refine a_tabIn rfl (by decide) rfl rfl ?_
      exact N
    | 34, _, _, v2 =>
      obtain ⟨σ', N, bd⟩ := lc_34 (gl := gl) (rt := rt) (rp := rp) (sw := sw) hi hL G hx hR nx
      refine ⟨σ', ?_, bd⟩
      refine a_aload_0 rfl rfl ?_
      refine a_iload_3 rfl rfl ?_
      refine a_iald rfl rfl (Or.inr rfl) rfl (by omega) (by omega) ?_
      refine a_as (y := xs i) (congrFun hx i) ?_
      refine a_bipush (v := (nI 63)) rfl rfl rfl ?_
      refine a_iand rfl rfl ?_
      refine a_as (y := nI (34)) v2 ?_
      refine a_tabIn rfl (by decide) rfl rfl ?_
      exact N
    | 35, _, _, v2 =>
      obtain ⟨σ', N, bd⟩ := lc_35 (gl := gl) (rt := rt) (rp := rp) (sw := sw) hi hL G hx hR nx
      refine ⟨σ', ?_, bd⟩
      refine a_aload_0 rfl rfl ?_
      refine a_iload_3 rfl rfl ?_
      refine a_iald rfl rfl (Or.inr rfl) rfl (by omega) (by omega) ?_
      refine a_as (y := xs i) (congrFun hx i) ?_
      refine a_bipush (v := (nI 63)) rfl rfl rfl ?_
      refine a_iand rfl rfl ?_
      refine a_as (y := nI (35)) v2 ?_
      refine a_tabIn rfl (by decide) rfl rfl ?_
      exact N
    | 36, _, _, v2 =>
      obtain ⟨σ', N, bd⟩ := lc_36 (gl := gl) (rt := rt) (rp := rp) (sw := sw) hi hL G hx hR nx
      refine ⟨σ', ?_, bd⟩
      refine a_aload_0 rfl rfl ?_
      refine a_iload_3 rfl rfl ?_
      refine a_iald rfl rfl (Or.inr rfl) rfl (by omega) (by omega) ?_
      refine a_as (y := xs i) (congrFun hx i) ?_
      refine a_bipush (v := (nI 63)) rfl rfl rfl ?_
      refine a_iand rfl rfl ?_
      refine a_as (y := nI (36)) v2 ?_
      refine a_tabIn rfl (by decide) rfl rfl ?_
      exact N
    | 37, _, _, v2 =>
      obtain ⟨σ', N, bd⟩ := lc_37 (gl := gl) (rt := rt) (rp := rp) (sw := sw) hi hL G hx hR nx
      refine ⟨σ', ?_, bd⟩
      refine a_aload_0 rfl rfl ?_
      refine a_iload_3 rfl rfl ?_
      refine a_iald rfl rfl (Or.inr rfl) rfl (by omega) (by omega) ?_
      refine a_as (y := xs i) (congrFun hx i) ?_
      refine a_bipush (v := (nI 63)) rfl rfl rfl ?_
      refine a_iand rfl rfl ?_
      refine a_as (y := nI (37)) v2 ?_
      refine a_tabIn rfl (by decide) rfl rfl ?_
      exact N
    | 38, _, _, v2 =>
      obtain ⟨σ', N, bd⟩ := lc_38 (gl := gl) (rt := rt) (rp := rp) (sw := sw) hi hL G hx hR nx
      refine ⟨σ', ?_, bd⟩
      refine a_aload_0 rfl rfl ?_
      refine a_iload_3 rfl rfl ?_
      refine a_iald rfl rfl (Or.inr rfl) rfl (by omega) (by omega) ?_
      refine a_as (y := xs i) (congrFun hx i) ?_
      refine a_bipush (v := (nI 63)) rfl rfl rfl ?_
      refine a_iand rfl rfl ?_
      refine a_as (y := nI (38)) v2 ?_
      refine a_tabIn rfl (by decide) rfl rfl ?_
      exact N
    | 39, _, _, v2 =>
      obtain ⟨σ', N, bd⟩ := lc_39 (gl := gl) (rt := rt) (rp := rp) (sw := sw) hi hL G hx hR nx
      refine ⟨σ', ?_, bd⟩
      refine a_aload_0 rfl rfl ?_
      refine a_iload_3 rfl rfl ?_
      refine a_iald rfl rfl (Or.inr rfl) rfl (by omega) (by omega) ?_
      refine a_as (y := xs i) (congrFun hx i) ?_
      refine a_bipush (v := (nI 63)) rfl rfl rfl ?_
      refine a_iand rfl rfl ?_
      refine a_as (y := nI (39)) v2 ?_
      refine a_tabIn rfl (by decide) rfl rfl ?_
      exact N
    | 40, _, _, v2 =>
      obtain ⟨σ', N, bd⟩ := lc_40 (gl := gl) (rt := rt) (rp := rp) (sw := sw) hi hL G hx hR nx
      refine ⟨σ', ?_, bd⟩
      refine a_aload_0 rfl rfl ?_
      refine a_iload_3 rfl rfl ?_
      refine a_iald rfl rfl (Or.inr rfl) rfl (by omega) (by omega) ?_
      refine a_as (y := xs i) (congrFun hx i) ?_
      refine a_bipush (v := (nI 63)) rfl rfl rfl ?_
      refine a_iand rfl rfl ?_
      refine a_as (y := nI (40)) v2 ?_
      refine a_tabIn rfl (by decide) rfl rfl ?_
      exact N
    | 41, _, _, v2 =>
      obtain ⟨σ', N, bd⟩ := lc_41 (gl := gl) (rt := rt) (rp := rp) (sw := sw) hi hL G hx hR nx
      refine ⟨σ', ?_, bd⟩
      refine a_aload_0 rfl rfl ?_
      refine a_iload_3 rfl rfl ?_
      refine a_iald rfl rfl (Or.inr rfl) rfl (by omega) (by omega) ?_
      refine a_as (y := xs i) (congrFun hx i) ?_
      refine a_bipush (v := (nI 63)) rfl rfl rfl ?_
      refine a_iand rfl rfl ?_
      refine a_as (y := nI (41)) v2 ?_
      refine a_tabIn rfl (by decide) rfl rfl ?_
      exact N
    | 42, _, _, v2 =>
      obtain ⟨σ', N, bd⟩ := lc_42 (gl := gl) (rt := rt) (rp := rp) (sw := sw) hi hL G hx hR nx
      refine ⟨σ', ?_, bd⟩
      refine a_aload_0 rfl rfl ?_
      refine a_iload_3 rfl rfl ?_
      refine a_iald rfl rfl (Or.inr rfl) rfl (by omega) (by omega) ?_
      refine a_as (y := xs i) (congrFun hx i) ?_
      refine a_bipush (v := (nI 63)) rfl rfl rfl ?_
      refine a_iand rfl rfl ?_
      refine a_as (y := nI (42)) v2 ?_
      refine a_tabIn rfl (by decide) rfl rfl ?_
      exact N
    | 43, _, _, v2 =>
      obtain ⟨σ', N, bd⟩ := lc_43 (gl := gl) (rt := rt) (rp := rp) (sw := sw) hi hL G hx hR nx
      refine ⟨σ', ?_, bd⟩
      refine a_aload_0 rfl rfl ?_
      refine a_iload_3 rfl rfl ?_
      refine a_iald rfl rfl (Or.inr rfl) rfl (by omega) (by omega) ?_
      refine a_as (y := xs i) (congrFun hx i) ?_
      refine a_bipush (v := (nI 63)) rfl rfl rfl ?_
      refine a_iand rfl rfl ?_
      refine a_as (y := nI (43)) v2 ?_
      refine a_tabIn rfl (by decide) rfl rfl ?_
      exact N
    | 44, _, _, v2 =>
      obtain ⟨σ', N, bd⟩ := lc_44 (gl := gl) (rt := rt) (rp := rp) (sw := sw) hi hL G hx hR nx
      refine ⟨σ', ?_, bd⟩
      refine a_aload_0 rfl rfl ?_
      refine a_iload_3 rfl rfl ?_
      refine a_iald rfl rfl (Or.inr rfl) rfl (by omega) (by omega) ?_
      refine a_as (y := xs i) (congrFun hx i) ?_
      refine a_bipush (v := (nI 63)) rfl rfl rfl ?_
      refine a_iand rfl rfl ?_
      refine a_as (y := nI (44)) v2 ?_
      refine a_tabIn rfl (by decide) rfl rfl ?_
      exact N
    | 45, _, _, v2 =>
      obtain ⟨σ', N, bd⟩ := lc_45 (gl := gl) (rt := rt) (rp := rp) (sw := sw) hi hL G hx hR nx
      refine ⟨σ', ?_, bd⟩
      refine a_aload_0 rfl rfl ?_
      refine a_iload_3 rfl rfl ?_
      refine a_iald rfl rfl (Or.inr rfl) rfl (by omega) (by omega) ?_
      refine a_as (y := xs i) (congrFun hx i) ?_
      refine a_bipush (v := (nI 63)) rfl rfl rfl ?_
      refine a_iand rfl rfl ?_
      refine a_as (y := nI (45)) v2 ?_
      refine a_tabIn rfl (by decide) rfl rfl ?_
      exact N
    | n + 46, c, _, _ => exact absurd c (by omega)
  · obtain ⟨σ', N, bd⟩ := nx t lt rt rp sw h gl R A B TX b k G hx (by omega)
    refine ⟨σ', ?_, bd⟩
    have o : (nI v).toInt < 0 ∨ 45 < (nI v).toInt := by rw [nI_toInt (by omega)]; omega
    refine a_aload_0 rfl rfl ?_
    refine a_iload_3 rfl rfl ?_
    refine a_iald rfl rfl (Or.inr rfl) rfl (by omega) (by omega) ?_
    refine a_as (y := xs i) (congrFun hx i) ?_
    refine a_bipush (v := (nI 63)) rfl rfl rfl ?_
    refine a_iand rfl rfl ?_
    refine a_as (y := nI (v)) v2 ?_
    refine a_tabOut rfl o rfl ?_
    exact N
theorem l_law (hL : L ≤ 3072) (xs : Nat → Int32) (e : Nat) : ∀ (i t : Nat) (lt rt rp : Option Nat) (sw : Bool) (h : Nat → Nat → Int32) (gl : Nat → Nat → Int64) (R : Nat) (A B : Nat → Int32) (TX : Nat → Txt) (b : Nat → Nat) (k : Nat), L < i + 6 * e + 6 → i ≤ 4000 → R + 1440 * e < 67108864 → GG A B TX R t lt b k h → h 0 = xs → wl L i 18 (sX L t lt rt rp sw h gl) := by
  have fin : ∀ (i t : Nat) (lt rt rp : Option Nat) (sw : Bool) (h : Nat → Nat → Int32) (gl : Nat → Nat → Int64), L < i + 6 → i ≤ 4000 → t ≤ 4 → wl L i 18 (sX L t lt rt rp sw h gl) := by
    intro i t lt rt rp sw h gl h1 h2 h3
    refine ⟨sX L t lt rt rp sw h gl, ?_, ?_⟩
    · have q : (nI L - nI 6).toInt < (i : Int) := by
        by_cases c : 6 ≤ L
        · rw [pk_sub c, nI_toInt (by omega)]; omega
        · have z : ∀ l, l < 6 → (nI l - nI 6).toInt < 0 := by decide +kernel
          have := z L (by omega)
          omega
      refine a_iload_3 rfl rfl ?_
      refine a_aload_0 rfl rfl ?_
      refine a_alen rfl rfl rfl rfl ?_
      refine a_as (y := nI (L)) rfl ?_
      refine a_bipush (v := (nI 6)) rfl rfl rfl ?_
      refine a_isub rfl rfl ?_
      refine a_cmpI_gt rfl rfl rfl (nI_toInt (by omega)) rfl (fun _ => ?_) (fun c_24 => by first | exact absurd q c_24 | exact absurd c_24 q)
      refine a_iconst (v := (nI 1)) rfl rfl rfl ?_
      exact a_zret rfl rfl (Or.inr rfl)
    · show 98 + 7 * t - 7 ≤ 600000 ∧ 14409 + 386 * t ≤ 7302250
      omega
  induction e with
  | zero =>
    intro i t lt rt rp sw h gl R A B TX b k h1 h2 h3 G hx
    exact fin i t lt rt rp sw h gl (by omega) h2 G.1.2.2.1.2.2
  | succ e ih =>
    intro i t lt rt rp sw h gl R A B TX b k h1 h2 h3 G hx
    by_cases c : L < i + 6
    · exact fin i t lt rt rp sw h gl c h2 G.1.2.2.1.2.2
    · have hR1 : R + 1440 < 67108864 := Nat.lt_of_le_of_lt (Nat.add_le_add_left (Nat.le_mul_of_pos_right 1440 (Nat.succ_pos e)) R) h3
      have nx : nxW L i R xs := by
        intro t lt rt rp sw h gl R' A B TX b k G hx hR
        obtain ⟨σ', N, bd⟩ := ih (i + 6) t lt rt rp sw h gl R' A B TX b k (by omega) (by omega) (by omega) G hx
        refine ⟨σ', ?_, bd⟩
        refine a_iinc_3 rfl rfl (nI_inc _ _) rfl ?_
        refine a_goto rfl rfl ?_
        exact N
      obtain ⟨σ', N, bd⟩ := lc_sw (gl := gl) (rt := rt) (rp := rp) (sw := sw) (i := i) (by omega) hL G hx hR1 nx
      refine ⟨σ', ?_, bd⟩
      have q : ¬ (nI L - nI 6).toInt < (i : Int) := by
        rw [pk_sub (by omega), nI_toInt (by omega)]
        omega
      refine a_iload_3 rfl rfl ?_
      refine a_aload_0 rfl rfl ?_
      refine a_alen rfl rfl rfl rfl ?_
      refine a_as (y := nI (L)) rfl ?_
      refine a_bipush (v := (nI 6)) rfl rfl rfl ?_
      refine a_isub rfl rfl ?_
      refine a_cmpI_gt rfl rfl rfl (nI_toInt (by omega)) rfl (fun c_24 => by first | exact absurd c_24 q | exact absurd q c_24) (fun _ => ?_)
      exact N
end LW
