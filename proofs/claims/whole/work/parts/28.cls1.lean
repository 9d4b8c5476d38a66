/-! the class's whole world: rows A (0 .. 5 now, 6 .. 11 mind, 12 .. 17 kept, 18 signs, 19 .. 22 search, 23 .. 25 tour, 26 rowSets, 27 refusals), numbers N (0 .. 2 now, 3 .. 5 mind, 6 .. 8 kept, 9 told, 10 .. 16 search, 17 rowSize, 18 isKept) -/
def eX (A : Nat → Nat → Int32) (N : Nat → Int32) : xH := [.inr (4, [.ref 1, .ref 8, .ref 15, .int (N 18), .ref 22, .ref 24, .ref 29, .ref 33, .int (N 17), .ref 34]),
  .inr (0, [.ref 2, .ref 3, .ref 4, .ref 5, .ref 6, .ref 7, .int (N 0), .int (N 1), .int (N 2)]), .inl (8, A 0), .inl (8, A 1), .inl (8, A 2), .inl (8, A 3), .inl (8, A 4), .inl (6, A 5),
  .inr (0, [.ref 9, .ref 10, .ref 11, .ref 12, .ref 13, .ref 14, .int (N 3), .int (N 4), .int (N 5)]), .inl (8, A 6), .inl (8, A 7), .inl (8, A 8), .inl (8, A 9), .inl (8, A 10), .inl (6, A 11),
  .inr (0, [.ref 16, .ref 17, .ref 18, .ref 19, .ref 20, .ref 21, .int (N 6), .int (N 7), .int (N 8)]), .inl (8, A 12), .inl (8, A 13), .inl (8, A 14), .inl (8, A 15), .inl (8, A 16), .inl (6, A 17),
  .inr (1, [.ref 23, .int (N 9)]), .inl (80, A 18),
  .inr (2, [.ref 25, .ref 26, .ref 27, .ref 28, .int (N 10), .int (N 11), .int (N 12), .int (N 13), .int (N 14), .int (N 15), .int (N 16)]), .inl (8, A 19), .inl (8, A 20), .inl (8, A 21), .inl (9, A 22),
  .inr (3, [.ref 30, .ref 31, .ref 32]), .inl (4, A 23), .inl (256, A 24), .inl (4096, A 25), .inl (12, A 26), .inl (7, A 27)]
/-- a run of rows, of numbers put in place -/
def ptA (A : Nat → Nat → Int32) (o n : Nat) (a : Nat → Nat → Int32) : Nat → Nat → Int32 := fun r => cond (Nat.ble o r && Nat.blt r (o + n)) (a (r - o)) (A r)
def ptN (N : Nat → Int32) (o n : Nat) (s : Nat → Int32) : Nat → Int32 := fun r => cond (Nat.ble o r && Nat.blt r (o + n)) (s (r - o)) (N r)
theorem ptA_out {A a : Nat → Nat → Int32} {o n r : Nat} (h : r < o ∨ o + n ≤ r) : ptA A o n a r = A r := by
  unfold ptA
  have : (Nat.ble o r && Nat.blt r (o + n)) = false := by
    rw [Bool.and_eq_false_iff]
    rcases h with h | h
    · exact Or.inl (by rw [Bool.eq_false_iff]; exact fun z => by have := Nat.le_of_ble_eq_true z; omega)
    · exact Or.inr (by rw [Bool.eq_false_iff]; exact fun z => by have := Nat.le_of_ble_eq_true z; omega)
  rw [this]; rfl
theorem ptN_out {N s : Nat → Int32} {o n r : Nat} (h : r < o ∨ o + n ≤ r) : ptN N o n s r = N r := by
  unfold ptN
  have : (Nat.ble o r && Nat.blt r (o + n)) = false := by
    rw [Bool.and_eq_false_iff]
    rcases h with h | h
    · exact Or.inl (by rw [Bool.eq_false_iff]; exact fun z => by have := Nat.le_of_ble_eq_true z; omega)
    · exact Or.inr (by rw [Bool.eq_false_iff]; exact fun z => by have := Nat.le_of_ble_eq_true z; omega)
  rw [this]; rfl
abbrev offA (A : Nat → Nat → Int32) (o : Nat) : Nat → Nat → Int32 := fun r => A (o + r)
abbrev ofN (N : Nat → Int32) (o : Nat) : Nat → Int32 := fun r => N (o + r)
abbrev pX : List Nat := [0, 1, 2, 3, 4, 5, 6, 7, 8, 9, 10, 11, 12, 13, 14, 15, 16, 17, 18, 19, 20, 21, 22, 23, 24, 25, 26, 27, 28, 29, 30, 31, 32, 33, 34]
abbrev pNow : List Nat := [1, 2, 3, 4, 5, 6, 7]
abbrev pMind : List Nat := [8, 9, 10, 11, 12, 13, 14]
theorem xsubX (A : Nat → Nat → Int32) (N : Nat → Int32) : xsub pX (eX A N) (eX A N) := rfl
theorem xput_id {n : Nat} {w w' : xH} (hn : va_nd (List.range n) = true) (h1 : w.length = n) (h2 : w'.length = n) (hr : w'.map (xrE (List.range n)) = w') : xput (List.range n) (List.range n) w' w = w' := by
  apply List.ext_getElem?
  intro k
  by_cases hk : k < n
  · have e : w'[k]? = some w'[k] := List.getElem?_eq_getElem (by omega)
    have h3 := xput_in (List.range n) (List.range n) w' w k k w'[k] hn (by rw [List.getElem?_range hk]) e (by omega)
    rw [xnth_eq] at h3
    rw [h3]
    have h4 : (w'.map (xrE (List.range n)))[k]? = some (xrE (List.range n) w'[k]) := by rw [List.getElem?_map, e]; rfl
    rw [hr] at h4
    exact h4.symm
  · rw [List.getElem?_eq_none (by rw [xput_len]; omega), List.getElem?_eq_none (by omega)]
theorem xputX (A A' : Nat → Nat → Int32) (N N' : Nat → Int32) : xput pX pX (eX A' N') (eX A N) = eX A' N' := by
  have e : pX = List.range 35 := by decide
  rw [e]
  exact xput_id (by decide) rfl rfl rfl
theorem xsubNow (A : Nat → Nat → Int32) (N : Nat → Int32) : xsub pNow (eL A N) (eX A N) := rfl
theorem xputNow (A a : Nat → Nat → Int32) (N s : Nat → Int32) : xput pNow pNow (eL a s) (eX A N) = eX (ptA A 0 6 a) (ptN N 0 3 s) := rfl
theorem xsubMind (A : Nat → Nat → Int32) (N : Nat → Int32) : xsub pMind (eL (offA A 6) (ofN N 3)) (eX A N) := rfl
theorem xputMind (A a : Nat → Nat → Int32) (N s : Nat → Int32) : xput pMind pMind (eL a s) (eX A N) = eX (ptA A 6 6 a) (ptN N 3 3 s) := rfl
section XX
variable {tb : xT} {G : xK} {Cl : Nat → List Value → xH → xPost → Prop}
/-- calls: on the whole world (nothing changes; another world), on the lantern now, on the lantern in mind -/
theorem xcX {pc x n c : Nat} {M : xM} {v0 : Int32} {j : Int64} {loc : xL} {st rest : List Value} {A : Nat → Nat → Int32} {N : Nat → Int32} {as : List Value} {r : Int32} (g3 : xG3 xMs tb Cl G) (hC : Cl c as (eX A N) (xRet r (eX A N))) (k : G (pc + 3) loc (.int r :: rest) (eX A N)) (hM : xnth xMs c = some M := by rfl) (hi : xlk tb pc = some ((match M.2.2.2.2.2.2 with | true => .invokestatic x | false => .invokevirtual x), n, [(v0, c)], j) := by rfl)
    (hst : st = (as.map (xrV pX)).reverse ++ rest := by rfl) (hr : Nat.ble (xcat rest) 8 = true := by rfl) : G pc loc st (eX A N) := xcallR g3 pX hC k hM hi hst hr rfl (xsubX A N)
theorem xcXW {pc x n c : Nat} {M : xM} {v0 : Int32} {j : Int64} {loc : xL} {st rest : List Value} {A A' : Nat → Nat → Int32} {N N' : Nat → Int32} {as : List Value} {r : Int32} (g3 : xG3 xMs tb Cl G) (hC : Cl c as (eX A N) (xRet r (eX A' N'))) (k : G (pc + 3) loc (.int r :: rest) (eX A' N')) (hM : xnth xMs c = some M := by rfl) (hi : xlk tb pc = some ((match M.2.2.2.2.2.2 with | true => .invokestatic x | false => .invokevirtual x), n, [(v0, c)], j) := by rfl)
    (hst : st = (as.map (xrV pX)).reverse ++ rest := by rfl) (hr : Nat.ble (xcat rest) 8 = true := by rfl) : G pc loc st (eX A N) := xcallW g3 pX hC (by rw [xputX]; exact k) hM hi hst hr rfl (xsubX A N)
theorem xcN {pc x n c : Nat} {M : xM} {v0 : Int32} {j : Int64} {loc : xL} {st rest : List Value} {A : Nat → Nat → Int32} {N : Nat → Int32} {as : List Value} {r : Int32} (g3 : xG3 xMs tb Cl G) (hC : Cl c as (eL A N) (xRet r (eL A N))) (k : G (pc + 3) loc (.int r :: rest) (eX A N)) (hM : xnth xMs c = some M := by rfl) (hi : xlk tb pc = some ((match M.2.2.2.2.2.2 with | true => .invokestatic x | false => .invokevirtual x), n, [(v0, c)], j) := by rfl)
    (hst : st = (as.map (xrV pNow)).reverse ++ rest := by rfl) (hr : Nat.ble (xcat rest) 8 = true := by rfl) : G pc loc st (eX A N) := xcallR g3 pNow hC k hM hi hst hr rfl (xsubNow A N)
theorem xcNP {pc x n c : Nat} {M : xM} {v0 : Int32} {j : Int64} {loc : xL} {st rest : List Value} {A : Nat → Nat → Int32} {N : Nat → Int32} {as : List Value} {PC : xPost} (g3 : xG3 xMs tb Cl G) (hC : Cl c as (eL A N) PC) (hPC : ∀ v w, PC v w → ∃ a' s', w = eL a' s') (k : ∀ v a' s', PC v (eL a' s') → G (pc + 3) loc (v.toList ++ rest) (eX (ptA A 0 6 a') (ptN N 0 3 s'))) (hM : xnth xMs c = some M := by rfl) (hi : xlk tb pc = some ((match M.2.2.2.2.2.2 with | true => .invokestatic x | false => .invokevirtual x), n, [(v0, c)], j) := by rfl)
    (hst : st = (as.map (xrV pNow)).reverse ++ rest := by rfl) (hr : Nat.ble (xcat rest) 8 = true := by rfl) : G pc loc st (eX A N) := by
  refine xcall g3 pNow hC (fun v wc' hp _ => ?_) hM hi hst hr rfl (xsubNow A N)
  obtain ⟨a', s', rfl⟩ := hPC v wc' hp
  rw [xputNow]
  exact k v a' s' hp
theorem xcD {pc x n c : Nat} {M : xM} {v0 : Int32} {j : Int64} {loc : xL} {st rest : List Value} {A : Nat → Nat → Int32} {N : Nat → Int32} {as : List Value} {r : Int32} (g3 : xG3 xMs tb Cl G) (hC : Cl c as (eL (offA A 6) (ofN N 3)) (xRet r (eL (offA A 6) (ofN N 3)))) (k : G (pc + 3) loc (.int r :: rest) (eX A N)) (hM : xnth xMs c = some M := by rfl) (hi : xlk tb pc = some ((match M.2.2.2.2.2.2 with | true => .invokestatic x | false => .invokevirtual x), n, [(v0, c)], j) := by rfl)
    (hst : st = (as.map (xrV pMind)).reverse ++ rest := by rfl) (hr : Nat.ble (xcat rest) 8 = true := by rfl) : G pc loc st (eX A N) := xcallR g3 pMind hC k hM hi hst hr rfl (xsubMind A N)
theorem xcDP {pc x n c : Nat} {M : xM} {v0 : Int32} {j : Int64} {loc : xL} {st rest : List Value} {A : Nat → Nat → Int32} {N : Nat → Int32} {as : List Value} {PC : xPost} (g3 : xG3 xMs tb Cl G) (hC : Cl c as (eL (offA A 6) (ofN N 3)) PC) (hPC : ∀ v w, PC v w → ∃ a' s', w = eL a' s') (k : ∀ v a' s', PC v (eL a' s') → G (pc + 3) loc (v.toList ++ rest) (eX (ptA A 6 6 a') (ptN N 3 3 s'))) (hM : xnth xMs c = some M := by rfl) (hi : xlk tb pc = some ((match M.2.2.2.2.2.2 with | true => .invokestatic x | false => .invokevirtual x), n, [(v0, c)], j) := by rfl)
    (hst : st = (as.map (xrV pMind)).reverse ++ rest := by rfl) (hr : Nat.ble (xcat rest) 8 = true := by rfl) : G pc loc st (eX A N) := by
  refine xcall g3 pMind hC (fun v wc' hp _ => ?_) hM hi hst hr rfl (xsubMind A N)
  obtain ⟨a', s', rfl⟩ := hPC v wc' hp
  rw [xputMind]
  exact k v a' s' hp
end XX
def relX (S : SG) (A : Nat → Nat → Int32) (N : Nat → Int32) : Prop := relS S.1 A N ∧ (∀ k, 1 ≤ k → k ≤ 6 → A 27 k = S.2.2.2.2 k) ∧ (N 9 = nI S.2.2.1.1 ∧ S.2.2.1.1 ≤ 80 ∧ ∀ i, i < S.2.2.1.1 → A 18 i = nI (S.2.2.1.2 i) ∧ S.2.2.1.2 i ≤ 255) ∧
  (N 17 = nI S.2.2.2.1.1 ∧ S.2.2.2.1.1 ≤ 12 ∧ ∀ i, i < S.2.2.2.1.1 → A 26 i = nI (S.2.2.2.1.2 i) ∧ S.2.2.2.1.2 i ≤ 255) ∧ N 18 = bI S.2.1.1 ∧ (S.2.1.1 = true → relS S.2.1.2 (offA A 12) (ofN N 6))
def pXs (x : Int32 × SG) : xPost := fun v w => v = some (.int x.1) ∧ ∃ A N, relX x.2 A N ∧ w = eX A N
theorem relX_no {S : SG} {A : Nat → Nat → Int32} {N : Nat → Int32} (h : relX S A N) {k : Nat} : relX (refu S k) (aU A 27 (inc (A 27) k)) N := by
  obtain ⟨h1, h2, h3, h4, h5, h6⟩ := h
  refine ⟨h1, fun j hj1 hj6 => ?_, h3, h4, h5, h6⟩
  show inc (A 27) k j = inc S.2.2.2.2 k j
  unfold inc
  rw [upd_at, upd_at]
  by_cases e : j = k
  · subst e
    rw [if_pos rfl, if_pos rfl, h2 j hj1 hj6]
  · rw [if_neg e, if_neg e, h2 j hj1 hj6]
/-- the class's small methods -/
theorem x_refused (d : Nat) (A : Nat → Nat → Int32) (N : Nat → Int32) {why : Int32} {k : Nat} (h0 : 0 < k) (hk : k < 7) (hw : -why = nI k) : xCt xMs (d + 1) nX5_refused [.ref 0, .int why] (eX A N) (xRet why (eX (aU A 27 (inc (A 27) k)) N)) := by
  have hin : vp_in (-why) 7 := by rw [hw]; exact vp_in_nI hk (by decide)
  have cl : (-why).toNatClampNeg = k := by rw [hw]; exact nI_clamp (by omega)
  have e : why = -(nI k) := by rw [← hw, Int32.neg_neg]
  have ti : why.toInt = -(k : Int) := by rw [e]; exact sb_negT (by omega)
  refine xV (M := mX5_refused) rfl rfl rfl rfl rfl pX5_refused rfl (fun G g1 g2 g3 => ?_)
  refine xwp_go g1 [] 100 _ _ _ _ ?_
  refine And.intro (fun h => ?_) (fun _ => ?_)
  · rw [fa_le, ti, show (0 : Int32).toInt = 0 from by decide] at h
    omega
  refine And.intro (fun h => ?_) (fun _ => ?_)
  · rw [fa_lt, ti, show ((-6) : Int32).toInt = -6 from by decide] at h
    omega
  refine And.intro hin (And.intro hin ?_)
  refine xri (G := G) g2 rfl rfl ?_
  rw [cl]
  rfl
theorem x_first (d : Nat) (ws : xH) (x y : Int32) : xCt xMs (d + 1) nX5_first [.int x, .int y] ws (xRet (if x = 0 then y else x) ws) := by
  refine xS (M := mX5_first) rfl rfl pX5_first rfl (fun G g1 g2 g3 => ?_)
  refine xwp_go g1 [] 100 _ _ _ _ ?_
  refine And.intro (fun h => ?_) (fun h => ?_)
  · exact xri (G := G) g2 rfl (by rw [if_pos h]) rfl
  · exact xri (G := G) g2 rfl (by rw [if_neg h]) rfl
theorem x_wrongNumber (d : Nat) (ws : xH) (v l m : Int32) : xCt xMs (d + 1) nX5_wrongNumber [.int v, .int l, .int m] ws (xRet (bndI v l m) ws) := by
  refine xS (M := mX5_wrongNumber) rfl rfl pX5_wrongNumber rfl (fun G g1 g2 g3 => ?_)
  refine xwp_go g1 [] 100 _ _ _ _ ?_
  refine And.intro (fun h => ?_) (fun h => ?_)
  · refine And.intro (fun h' => ?_) (fun h' => ?_)
    · exact xri (G := G) g2 rfl (by unfold bndI; rw [if_neg (i_nlt_of_le h), if_neg (i_nlt_of_le h')]) rfl
    · exact xri (G := G) g2 rfl (by unfold bndI; rw [if_neg (i_nlt_of_le h), if_pos (i_lt_of_nle h')]) rfl
  · exact xri (G := G) g2 rfl (by unfold bndI; rw [if_pos (i_lt_of_nle h)]) rfl
def wwI (w m : Int32) : Int32 := if inB w 0 m = false then -2 else 0
theorem x_wrongWhat (d : Nat) (ws : xH) (w m : Int32) : xCt xMs (d + 1) nX5_wrongWhat [.int w, .int m] ws (xRet (wwI w m) ws) := by
  refine xS (M := mX5_wrongWhat) rfl rfl pX5_wrongWhat rfl (fun G g1 g2 g3 => ?_)
  unfold wwI at g2
  refine xwp_go g1 [] 100 _ _ _ _ ?_
  refine And.intro (fun h => ?_) (fun h => ?_)
  · exact xri (G := G) g2 rfl (by rw [if_pos (by unfold inB; exact decide_eq_false (fun z => i_nlt_of_le z.1 h))]) rfl
  · refine And.intro (fun h' => ?_) (fun h' => ?_)
    · exact xri (G := G) g2 rfl (by rw [if_neg (by unfold inB; rw [decide_eq_true ⟨i_le_of_nlt h, h'⟩]; decide)]) rfl
    · exact xri (G := G) g2 rfl (by rw [if_pos (by unfold inB; exact decide_eq_false (fun z => h' z.2))]) rfl
def waI (p w m : Int32) : Int32 := if wwI w m = 0 then bndI p 0 65535 else wwI w m
theorem x_wrongAsked (d : Nat) (ws : xH) (p w m : Int32) : xCt xMs (d + 2) nX5_wrongAsked [.int p, .int w, .int m] ws (xRet (waI p w m) ws) := by
  refine xS (M := mX5_wrongAsked) rfl rfl pX5_wrongAsked rfl (fun G g1 g2 g3 => ?_)
  refine xwp_go g1 [] 100 _ _ _ _ ?_
  refine xcallR (G := G) g3 [] (x_wrongWhat d [] w m) ?_
  refine xwp_go g1 [] 100 _ _ _ _ ?_
  refine xcallR (G := G) g3 [] (x_wrongNumber d [] p 0 65535) ?_
  refine xwp_go g1 [] 100 _ _ _ _ ?_
  refine xcallR (G := G) g3 [] (x_first d [] (wwI w m) (bndI p 0 65535)) ?_
  refine xwp_go g1 [] 100 _ _ _ _ ?_
  exact xri (G := G) g2 rfl rfl rfl
def wsI (b : Bool) : Int32 := if b = false then -1 else 0
theorem x_wrongSlide (d : Nat) {q : LQ} {A : Nat → Nat → Int32} {N : Nat → Int32} (hr : relS q A N) (x : Int32) : xCt xMs (d + 2) nX5_wrongSlide [.ref 0, .int x] (eX A N) (xRet (wsI (hasB (q 6 0) x)) (eX A N)) := by
  refine xV (M := mX5_wrongSlide) rfl rfl rfl rfl rfl pX5_wrongSlide rfl (fun G g1 g2 g3 => ?_)
  unfold wsI at g2
  refine xwp_go g1 [] 100 _ _ _ _ ?_
  refine xcN (G := G) g3 (c_has d hr x) ?_
  refine xwp_go g1 [] 100 _ _ _ _ ?_
  refine And.intro (fun h => ?_) (fun h => ?_) <;> rw [bI_0] at h
  · exact xri (G := G) g2 rfl (by rw [if_pos h]) rfl
  · exact xri (G := G) g2 rfl (by rw [if_neg h]) rfl
theorem x_wrongSet (d : Nat) {q : LQ} {A : Nat → Nat → Int32} {N : Nat → Int32} (hr : relS q A N) (x : Int32) : xCt xMs (d + 2) nX5_wrongSet [.ref 0, .int x] (eX A N) (xRet (wsI (setB (q 6 0) x)) (eX A N)) := by
  refine xV (M := mX5_wrongSet) rfl rfl rfl rfl rfl pX5_wrongSet rfl (fun G g1 g2 g3 => ?_)
  unfold wsI at g2
  refine xwp_go g1 [] 100 _ _ _ _ ?_
  refine xcN (G := G) g3 (c_hasAll d hr x) ?_
  refine xwp_go g1 [] 100 _ _ _ _ ?_
  refine And.intro (fun h => ?_) (fun h => ?_) <;> rw [bI_0] at h
  · exact xri (G := G) g2 rfl (by rw [if_pos h]) rfl
  · exact xri (G := G) g2 rfl (by rw [if_neg h]) rfl
