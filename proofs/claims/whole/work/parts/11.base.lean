/-! to begin, call, end a method; the worlds of the class and of the reference; what a lantern is -/
theorem xS {c d : Nat} {M : xM} {as : List Value} {ws : xH} {Post : xPost} (hM : xnth xMs c = some M) (hs : M.2.2.2.2.2.2 = true) (hp : (parseMethodDescriptor M.1.desc).map (fun q => q.parameters.length) = some as.length) (hl : Nat.ble (xsl as).length M.2.2.1 = true)
    (h : ∀ G : xK, xG1 M.2.2.2.2.1 G → xG2 M.2.2.2.2.1 M.2.2.2.1 Post G → xG3 xMs M.2.2.2.2.1 (xCt xMs d) G → G 0 (xent as M.2.2.1) [] ws) : xCt xMs (d + 1) c as ws Post :=
  ⟨M, hM, by rw [hs]; exact hp, hl, h⟩
theorem xV {c d a ci : Nat} {fs r : List Value} {q : vw_C} {M : xM} {ws : xH} {Post : xPost} (hM : xnth xMs c = some M) (hs : M.2.2.2.2.2.2 = false) (ha : xnth ws a = some (.inr (ci, fs))) (hq : vwCl[ci]? = some q) (hq2 : q.1 = M.1.cls) (hp : (parseMethodDescriptor M.1.desc).map (fun q => q.parameters.length) = some r.length) (hl : Nat.ble (xsl (.ref a :: r)).length M.2.2.1 = true)
    (h : ∀ G : xK, xG1 M.2.2.2.2.1 G → xG2 M.2.2.2.2.1 M.2.2.2.1 Post G → xG3 xMs M.2.2.2.2.1 (xCt xMs d) G → G 0 (xent (.ref a :: r) M.2.2.1) [] ws) : xCt xMs (d + 1) c (.ref a :: r) ws Post :=
  ⟨M, hM, by rw [hs]; exact ⟨a, ci, fs, r, q, rfl, ha, hq, hq2, hp⟩, hl, h⟩
/-- ends: an int, nothing, with a world -/
def xRet (r : Int32) (w0 : xH) : xPost := fun v w => v = some (.int r) ∧ w = w0
def xRetV (w0 : xH) : xPost := fun v w => v = none ∧ w = w0
def xRetL (r : Int64) (w0 : xH) : xPost := fun v w => v = some (.long r) ∧ w = w0
section XB
variable {tb : xT} {G : xK} {Cl : Nat → List Value → xH → xPost → Prop}
theorem xri {pc n : Nat} {an : List (Int32 × Nat)} {j : Int64} {loc : xL} {ws w0 : xH} {x r : Int32} (g2 : xG2 tb (some .int) (xRet r w0) G) (hi : xlk tb pc = some (.ireturn, n, an, j)) (hx : x = r) (hw : ws = w0) : G pc loc [.int x] ws := g2.1 _ _ _ _ _ _ _ hi (Or.inl rfl) ⟨by rw [hx], hw⟩
theorem xrz {pc n : Nat} {an : List (Int32 × Nat)} {j : Int64} {loc : xL} {ws w0 : xH} {x r : Int32} (g2 : xG2 tb (some .boolean) (xRet r w0) G) (hi : xlk tb pc = some (.ireturn, n, an, j)) (h01 : x = 0 ∨ x = 1) (hx : x = r) (hw : ws = w0) : G pc loc [.int x] ws := g2.1 _ _ _ _ _ _ _ hi (Or.inr ⟨rfl, h01⟩) ⟨by rw [hx], hw⟩
theorem xrv {pc n : Nat} {an : List (Int32 × Nat)} {j : Int64} {loc : xL} {ws w0 : xH} (g2 : xG2 tb none (xRetV w0) G) (hi : xlk tb pc = some (.return_, n, an, j)) (hw : ws = w0) : G pc loc [] ws := g2.2.2 _ _ _ _ _ _ hi rfl ⟨rfl, hw⟩
theorem xrl {pc n : Nat} {an : List (Int32 × Nat)} {j : Int64} {loc : xL} {ws w0 : xH} {x r : Int64} (g2 : xG2 tb (some .long) (xRetL r w0) G) (hi : xlk tb pc = some (.lreturn, n, an, j)) (hx : x = r) (hw : ws = w0) : G pc loc [.long x] ws := g2.2.1 _ _ _ _ _ _ _ hi rfl ⟨by rw [hx], hw⟩
/-- ends with any post -/
theorem xri' {Post : xPost} {pc n : Nat} {an : List (Int32 × Nat)} {j : Int64} {loc : xL} {ws : xH} {x : Int32} (g2 : xG2 tb (some .int) Post G) (hi : xlk tb pc = some (.ireturn, n, an, j)) (hp : Post (some (.int x)) ws) : G pc loc [.int x] ws := g2.1 _ _ _ _ _ _ _ hi (Or.inl rfl) hp
theorem xrz' {Post : xPost} {pc n : Nat} {an : List (Int32 × Nat)} {j : Int64} {loc : xL} {ws : xH} {x : Int32} (g2 : xG2 tb (some .boolean) Post G) (hi : xlk tb pc = some (.ireturn, n, an, j)) (h01 : x = 0 ∨ x = 1) (hp : Post (some (.int x)) ws) : G pc loc [.int x] ws := g2.1 _ _ _ _ _ _ _ hi (Or.inr ⟨rfl, h01⟩) hp
theorem xrv' {Post : xPost} {pc n : Nat} {an : List (Int32 × Nat)} {j : Int64} {loc : xL} {ws : xH} (g2 : xG2 tb none Post G) (hi : xlk tb pc = some (.return_, n, an, j)) (hp : Post none ws) : G pc loc [] ws := g2.2.2 _ _ _ _ _ _ hi rfl hp
theorem xcall {pc x n c : Nat} {M : xM} {v0 : Int32} {j : Int64} {loc : xL} {st rest : List Value} {ws : xH} {as : List Value} {wc : xH} {PC : xPost} (g3 : xG3 xMs tb Cl G) (pl : List Nat) (hC : Cl c as wc PC) (k : ∀ v wc', PC v wc' → wc'.length = wc.length → G (pc + 3) loc (v.toList ++ rest) (xput pl pl wc' ws)) (hM : xnth xMs c = some M := by rfl) (hi : xlk tb pc = some ((match M.2.2.2.2.2.2 with | true => .invokestatic x | false => .invokevirtual x), n, [(v0, c)], j) := by rfl)
    (hst : st = (as.map (xrV pl)).reverse ++ rest := by rfl) (hr : Nat.ble (xcat rest) 8 = true := by rfl) (hn : va_nd pl = true := by rfl) (hs : xsub pl wc ws := by rfl) : G pc loc st ws :=
  g3 pc x n c M v0 j loc st rest ws as pl wc PC hM hi hst hr hn hs hC k
theorem xput_same {pl : List Nat} {wc ws : xH} (hn : va_nd pl = true) (hs : xsub pl wc ws) : xput pl pl wc ws = ws := by
  apply List.ext_getElem?
  intro k
  rw [← xnth_eq, ← xnth_eq]
  by_cases hk : k ∈ pl
  · obtain ⟨j, hj⟩ := List.getElem?_of_mem hk
    have hl := (xsub_e hs).1
    have hjl : j < wc.length := by rw [← hl]; exact (List.getElem?_eq_some_iff.mp hj).1
    obtain ⟨p, h1, h2⟩ := (xsub_e hs).2 j wc[j] (by rw [xnth_eq]; exact List.getElem?_eq_getElem hjl)
    rw [hj] at h1
    cases h1
    rw [xput_in pl pl wc ws j k wc[j] hn hj (List.getElem?_eq_getElem hjl) (xnth_lt h2), h2]
  · exact xput_out pl pl wc ws k hk
/-- a call that changes nothing and answers an int -/
theorem xcallR {pc x n c : Nat} {M : xM} {v0 : Int32} {j : Int64} {loc : xL} {st rest : List Value} {ws : xH} {as : List Value} {wc : xH} {r : Int32} (g3 : xG3 xMs tb Cl G) (pl : List Nat) (hC : Cl c as wc (xRet r wc)) (k : G (pc + 3) loc (.int r :: rest) ws) (hM : xnth xMs c = some M := by rfl) (hi : xlk tb pc = some ((match M.2.2.2.2.2.2 with | true => .invokestatic x | false => .invokevirtual x), n, [(v0, c)], j) := by rfl)
    (hst : st = (as.map (xrV pl)).reverse ++ rest := by rfl) (hr : Nat.ble (xcat rest) 8 = true := by rfl) (hn : va_nd pl = true := by rfl) (hs : xsub pl wc ws := by rfl) : G pc loc st ws := by
  refine xcall g3 pl hC (fun v wc' hp _ => ?_) hM hi hst hr hn hs
  obtain ⟨rfl, rfl⟩ := hp
  rw [xput_same hn hs]
  exact k
/-- a call that makes another world of the callee's, and answers an int -/
theorem xcallW {pc x n c : Nat} {M : xM} {v0 : Int32} {j : Int64} {loc : xL} {st rest : List Value} {ws : xH} {as : List Value} {wc w1 : xH} {r : Int32} (g3 : xG3 xMs tb Cl G) (pl : List Nat) (hC : Cl c as wc (xRet r w1)) (k : G (pc + 3) loc (.int r :: rest) (xput pl pl w1 ws)) (hM : xnth xMs c = some M := by rfl) (hi : xlk tb pc = some ((match M.2.2.2.2.2.2 with | true => .invokestatic x | false => .invokevirtual x), n, [(v0, c)], j) := by rfl)
    (hst : st = (as.map (xrV pl)).reverse ++ rest := by rfl) (hr : Nat.ble (xcat rest) 8 = true := by rfl) (hn : va_nd pl = true := by rfl) (hs : xsub pl wc ws := by rfl) : G pc loc st ws := by
  refine xcall g3 pl hC (fun v wc' hp _ => ?_) hM hi hst hr hn hs
  obtain ⟨rfl, rfl⟩ := hp
  exact k
theorem xcallV {pc x n c : Nat} {M : xM} {v0 : Int32} {j : Int64} {loc : xL} {st rest : List Value} {ws : xH} {as : List Value} {wc w1 : xH} (g3 : xG3 xMs tb Cl G) (pl : List Nat) (hC : Cl c as wc (xRetV w1)) (k : G (pc + 3) loc rest (xput pl pl w1 ws)) (hM : xnth xMs c = some M := by rfl) (hi : xlk tb pc = some ((match M.2.2.2.2.2.2 with | true => .invokestatic x | false => .invokevirtual x), n, [(v0, c)], j) := by rfl)
    (hst : st = (as.map (xrV pl)).reverse ++ rest := by rfl) (hr : Nat.ble (xcat rest) 8 = true := by rfl) (hn : va_nd pl = true := by rfl) (hs : xsub pl wc ws := by rfl) : G pc loc st ws := by
  refine xcall g3 pl hC (fun v wc' hp _ => ?_) hM hi hst hr hn hs
  obtain ⟨rfl, rfl⟩ := hp
  exact k
end XB
theorem ag1 {d c : Nat} {ws : xH} {P : xPost} {x y : Int32} (e : x = y) (h : xCt xMs d c [.int y] ws P) : xCt xMs d c [.int x] ws P := e ▸ h
theorem ag2 {d c : Nat} {ws : xH} {P : xPost} {x y x2 y2 : Int32} (e : x = y) (e2 : x2 = y2) (h : xCt xMs d c [.int y, .int y2] ws P) : xCt xMs d c [.int x, .int x2] ws P := e ▸ e2 ▸ h
theorem agr1 {d c r : Nat} {ws : xH} {P : xPost} {x y : Int32} (e : x = y) (h : xCt xMs d c [.ref r, .int y] ws P) : xCt xMs d c [.ref r, .int x] ws P := e ▸ h
theorem agr2 {d c r : Nat} {ws : xH} {P : xPost} {x y x2 y2 : Int32} (e : x = y) (e2 : x2 = y2) (h : xCt xMs d c [.ref r, .int y, .int y2] ws P) : xCt xMs d c [.ref r, .int x, .int x2] ws P := e ▸ e2 ▸ h
theorem agr3 {d c r : Nat} {ws : xH} {P : xPost} {x y x2 y2 x3 y3 : Int32} (e : x = y) (e2 : x2 = y2) (e3 : x3 = y3) (h : xCt xMs d c [.ref r, .int y, .int y2, .int y3] ws P) : xCt xMs d c [.ref r, .int x, .int x2, .int x3] ws P := e ▸ e2 ▸ e3 ▸ h
theorem agr4 {d c r : Nat} {ws : xH} {P : xPost} {x y x2 y2 x3 y3 x4 y4 : Int32} (e : x = y) (e2 : x2 = y2) (e3 : x3 = y3) (e4 : x4 = y4) (h : xCt xMs d c [.ref r, .int y, .int y2, .int y3, .int y4] ws P) : xCt xMs d c [.ref r, .int x, .int x2, .int x3, .int x4] ws P := e ▸ e2 ▸ e3 ▸ e4 ▸ h
def bI (b : Bool) : Int32 := cond b 1 0
theorem bI_0 {b : Bool} : bI b = 0 ↔ b = false := by cases b <;> decide
theorem bI_01 (b : Bool) : bI b = 0 ∨ bI b = 1 := by cases b <;> decide
/-- rows and numbers that are put -/
def aU (a : Nat → Nat → Int32) (r : Nat) (f : Nat → Int32) : Nat → Nat → Int32 := fun j => cond (Nat.beq j r) f (a j)
def sU (s : Nat → Int32) (r : Nat) (v : Int32) : Nat → Int32 := fun j => cond (Nat.beq j r) v (s j)
/-- the class's lantern: rows 0 kinds, 1 figures, 2 painted, 3 prices, 4 uses, 5 wanted; numbers 0 slides, 1 wanted, 2 heat -/
def eL (a : Nat → Nat → Int32) (s : Nat → Int32) : xH := [.inr (0, [.ref 1, .ref 2, .ref 3, .ref 4, .ref 5, .ref 6, .int (s 0), .int (s 1), .int (s 2)]), .inl (8, a 0), .inl (8, a 1), .inl (8, a 2), .inl (8, a 3), .inl (8, a 4), .inl (6, a 5)]
/-- the reference: rows 0 .. 5 as above, 6 refused, 7 tape, 8 letter, 9 letterAt, 10 told, 11 kept, 12 cost, 13 shows, 14 asked, 15 row; numbers 0 .. 2 as above, 3 taped, 4 at, 5 statements, 6 hasImage, 7 isKeeping, 8 cursor, 9 .. 14 what findShown finds, 15 rowMany -/
def eM (a : Nat → Nat → Int32) (s : Nat → Int32) : xH := [.inr (5, [.ref 7, .ref 1, .ref 2, .ref 3, .ref 4, .ref 5, .ref 6, .int (s 0), .int (s 1), .int (s 2), .ref 8, .ref 9, .ref 10, .ref 11, .int (s 3), .int (s 4), .int (s 5), .ref 12, .int (s 6), .int (s 7), .int (s 8), .int (s 9), .int (s 10), .int (s 11), .int (s 12), .int (s 13), .int (s 14), .ref 13, .ref 14, .ref 15, .ref 16, .int (s 15)]),
  .inl (8, a 0), .inl (8, a 1), .inl (8, a 2), .inl (8, a 3), .inl (8, a 4), .inl (6, a 5), .inl (7, a 6), .inl (80, a 7), .inl (32, a 8), .inl (32, a 9), .inl (128, a 10), .inl (110, a 11), .inl (16384, a 12), .inl (256, a 13), .inl (6, a 14), .inl (12, a 15)]
/-- a lantern in numbers: rows 0 .. 5 as above, row 6: how many slides, how many wanted, heat -/
abbrev LQ : Type := Nat → Nat → Nat
def okS (q : LQ) : Prop := q 6 0 ≤ 8 ∧ q 6 1 ≤ 6 ∧ 1 ≤ q 6 2 ∧ q 6 2 ≤ 9 ∧ (∀ i, i < q 6 0 → q 0 i ≤ 5 ∧ q 1 i ≤ 9 ∧ q 2 i < 65536 ∧ q 3 i ≤ 99 ∧ q 4 i ≤ 99) ∧ ∀ i, i < q 6 1 → q 5 i < 65536
def relS (q : LQ) (a : Nat → Nat → Int32) (s : Nat → Int32) : Prop := okS q ∧ (∀ i, i < q 6 0 → a 0 i = nI (q 0 i) ∧ a 1 i = nI (q 1 i) ∧ a 2 i = nI (q 2 i) ∧ a 3 i = nI (q 3 i) ∧ a 4 i = nI (q 4 i)) ∧ (∀ i, i < q 6 1 → a 5 i = nI (q 5 i)) ∧ s 0 = nI (q 6 0) ∧ s 1 = nI (q 6 1) ∧ s 2 = nI (q 6 2)
def clr (p f : Nat) : Nat := p ^^^ (p &&& 2 ^ f)
def notN (p : Nat) : Nat := 65535 ^^^ (65535 &&& p)
def onQ (q : LQ) (i : Nat) : Nat := match q 0 i with
  | 1 => mirN (q 2 i)
  | 2 => flipN (mirN (q 2 i))
  | 3 => notN (q 2 i)
  | 4 => clr (q 2 i) (q 1 i)
  | 5 => shiftN (clr (q 2 i) (q 1 i)) (q 1 i % 4)
  | _ => q 2 i
def laidL (q : LQ) (set over : Nat) : Nat → Nat
  | 0 => 0
  | i + 1 => if set.testBit i then laidL q set over i ||| (if over.testBit i then mirN (onQ q i) else onQ q i) else laidL q set over i
def laidQ (q : LQ) (set over : Nat) : Nat := laidL q set over (q 6 0)
theorem notN_lt (p : Nat) : notN p < 65536 := Nat.xor_lt_two_pow (n := 16) (by decide) (Nat.lt_of_le_of_lt Nat.and_le_left (by decide))
theorem clr_lt {p f n : Nat} (h : p < 2 ^ n) : clr p f < 2 ^ n := Nat.xor_lt_two_pow h (Nat.lt_of_le_of_lt Nat.and_le_left h)
theorem clr_tb (p f i : Nat) : (clr p f).testBit i = (p.testBit i && !decide (f = i)) := by
  unfold clr
  rw [Nat.testBit_xor, Nat.testBit_and, Nat.testBit_two_pow]
  cases p.testBit i <;> cases h : decide (f = i) <;> rfl
theorem onQ_lt {q : LQ} (h : okS q) {i : Nat} (hi : i < q 6 0) : onQ q i < 65536 := by
  have h2 := (h.2.2.2.2.1 i hi).2.2.1
  unfold onQ
  split
  · exact mirN_lt _
  · exact flipN_lt _
  · exact notN_lt _
  · exact clr_lt (n := 16) h2
  · exact shiftN_lt _ _
  · exact h2
theorem laidL_lt {q : LQ} (h : okS q) (set over : Nat) : ∀ i, i ≤ q 6 0 → laidL q set over i < 65536
  | 0, _ => Nat.succ_pos _
  | i + 1, hi => by
    unfold laidL
    have ih := laidL_lt h set over i (by omega)
    split
    · refine Nat.or_lt_two_pow (n := 16) ih ?_
      split
      · exact mirN_lt _
      · exact onQ_lt h (by omega)
    · exact ih
theorem laidQ_lt {q : LQ} (h : okS q) (set over : Nat) : laidQ q set over < 65536 := laidL_lt h set over _ (Nat.le_refl _)
