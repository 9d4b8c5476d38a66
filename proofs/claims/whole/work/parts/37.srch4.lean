/-! the class's Search: what it finds; fewest, cheapest, near, can, worth -/
theorem noteF_w (F : FF) (set ov : Nat) : (noteF F set ov).2.2.2 ≤ F.2.2.2 + 1 := by
  show (if pop set < F.1 then 1 else F.2.2.2 + 1) ≤ F.2.2.2 + 1
  split <;> omega
theorem skF_w (D : LD) : ∀ j i sh set ov F, (skF D j i sh set ov F).2.2.2 ≤ F.2.2.2 + 3 ^ j := by
  intro j
  induction j with
  | zero =>
    intro i sh set ov F
    have := noteF_w F set ov
    unfold skF
    split
    · omega
    · split <;> omega
  | succ j ih =>
    intro i sh set ov F
    have h3 : 3 ^ (j + 1) = 3 * 3 ^ j := by rw [Nat.pow_succ, Nat.mul_comm]
    have k1 := ih (i + 1) sh set ov F
    unfold skF
    split
    · omega
    · split
      · omega
      · have k2 : (onO (D.1 i) (skF D j (i + 1) sh set ov F) (fun x => skF D j (i + 1) (sh ||| x) (set ||| 2 ^ i) ov (skF D j (i + 1) sh set ov F))).2.2.2 ≤ F.2.2.2 + 2 * 3 ^ j := by
          cases D.1 i with
          | none => show (skF D j (i + 1) sh set ov F).2.2.2 ≤ _; omega
          | some x =>
            have := ih (i + 1) (sh ||| x) (set ||| 2 ^ i) ov (skF D j (i + 1) sh set ov F)
            show (skF D j (i + 1) (sh ||| x) (set ||| 2 ^ i) ov (skF D j (i + 1) sh set ov F)).2.2.2 ≤ _
            omega
        generalize onO (D.1 i) (skF D j (i + 1) sh set ov F) (fun x => skF D j (i + 1) (sh ||| x) (set ||| 2 ^ i) ov (skF D j (i + 1) sh set ov F)) = F2 at k2
        cases D.2.1 i with
        | none => show F2.2.2.2 ≤ _; omega
        | some x =>
          have := ih (i + 1) (sh ||| x) (set ||| 2 ^ i) (ov ||| 2 ^ i) F2
          show (skF D j (i + 1) (sh ||| x) (set ||| 2 ^ i) (ov ||| 2 ^ i) F2).2.2.2 ≤ _
          omega
def fewF (q : LQ) (p : Nat) : FF := skF (ldD q none p p) (q 6 0) 0 0 0 0 (9, 0, 0, 0)
theorem fewF_w {q : LQ} (h : okS q) (p : Nat) : (fewF q p).2.2.2 ≤ 6561 := by
  have h1 := skF_w (ldD q none p p) (q 6 0) 0 0 0 0 (9, 0, 0, 0)
  have h2 : 3 ^ q 6 0 ≤ 3 ^ 8 := Nat.pow_le_pow_right (by decide) h.1
  have h3 : (3 : Nat) ^ 8 = 6561 := by decide
  unfold fewF
  show _ ≤ 6561
  have : ((9, 0, 0, 0) : FF).2.2.2 = 0 := rfl
  omega
theorem t_findsFewest (d : Nat) {q : LQ} {a : Nat → Nat → Int32} {s : Nat → Int32} (hr : relS q a s) (b : Nat → Nat → Int32) (t : Nat → Int32) {p : Nat} (hp : p < 65536) : xCt xMs (d + 12) nX3_findsFewest [.ref 0, .ref 5, .int (nI p)] (eSL b t a s) (fun v z => v = some (.int (bI (decide (0 < (fewF q p).2.2.2)))) ∧ ∃ b' t', z = eSL b' (tF t' (fewF q p)) a s) := by
  have hw := fewF_w hr.1 p
  have h8 := hr.1.1
  refine xV (M := mX3_findsFewest) rfl rfl rfl rfl rfl pX3_findsFewest rfl (fun G g1 g2 g3 => ?_)
  refine xwp_go g1 [] 100 _ _ _ _ ?_
  refine xcall (G := G) g3 pSL (t_load (d + 8) hr b t (Or.inl ⟨rfl, rfl⟩) hp hp) (fun v wc' hpp _ => ?_)
  obtain ⟨rfl, b', t', hl, rfl⟩ := hpp
  rw [xputSL]
  refine xwp_go g1 [] 100 _ _ _ _ ?_
  refine xcall (G := G) g3 pS (t_seekFewest hl (q 6 0) (d + 11) 0 0 0 0 (9, 0, 0, 0) (by omega) (by omega) (by decide) (by decide) (by decide) ⟨by decide, by decide, by decide⟩) (fun v wc' hpp _ => ?_) rfl rfl rfl rfl rfl (xsubSL b' (tF t' (9, 0, 0, 0)) a s)
  obtain ⟨rfl, rfl⟩ := hpp
  show G 37 [some (.ref 0), some (.ref 5), some (.int (nI p))] [] (eSL b' (tF t' (fewF q p)) a s)
  have e6 : tF t' (fewF q p) 6 = nI (fewF q p).2.2.2 := rfl
  refine xwp_go g1 [] 100 _ _ _ _ ?_
  refine And.intro (fun h => ?_) (fun h => ?_) <;> rw [e6, show (0 : Int32) = nI 0 from rfl, nI_leI (by omega) (by decide)] at h
  · exact xrz' (G := G) g2 rfl (Or.inl rfl) ⟨by rw [decide_eq_false (by omega)]; rfl, b', t', rfl⟩
  · exact xrz' (G := G) g2 rfl (Or.inr rfl) ⟨by rw [decide_eq_true (by omega)]; rfl, b', t', rfl⟩
def cheC (q : LQ) (p : Nat) : Nat := skC (ldD q none p p) (q 6 0) 0 0 0 1000
theorem t_leastPrice (d : Nat) {q : LQ} {a : Nat → Nat → Int32} {s : Nat → Int32} (hr : relS q a s) (b : Nat → Nat → Int32) (t : Nat → Int32) {p : Nat} (hp : p < 65536) : xCt xMs (d + 12) nX3_leastPrice [.ref 0, .ref 5, .int (nI p)] (eSL b t a s) (fun v z => v = some (.int (if cheC q p = 1000 then -1 else nI (cheC q p))) ∧ ∃ b' t', z = eSL b' t' a s) := by
  have h8 := hr.1.1
  have hc : cheC q p ≤ 1000 := skC_le _ _ _ _ _ _
  refine xV (M := mX3_leastPrice) rfl rfl rfl rfl rfl pX3_leastPrice rfl (fun G g1 g2 g3 => ?_)
  refine xwp_go g1 [] 100 _ _ _ _ ?_
  refine xcall (G := G) g3 pSL (t_load (d + 8) hr b t (Or.inl ⟨rfl, rfl⟩) hp hp) (fun v wc' hpp _ => ?_)
  obtain ⟨rfl, b', t', hl, rfl⟩ := hpp
  rw [xputSL]
  refine xwp_go g1 [] 100 _ _ _ _ ?_
  refine xcall (G := G) g3 pS (t_seekCheapest hl (q 6 0) (d + 11) 0 0 0 1000 (by omega) (by omega) (by decide) (by decide) (by decide)) (fun v wc' hpp _ => ?_) rfl rfl rfl rfl rfl (xsubSL b' (sU t' 2 (nI 1000)) a s)
  obtain ⟨rfl, rfl⟩ := hpp
  show G 22 [some (.ref 0), some (.ref 5), some (.int (nI p))] [] (eSL b' (sU t' 2 (nI (cheC q p))) a s)
  have e6 : sU t' 2 (nI (cheC q p)) 2 = nI (cheC q p) := rfl
  refine xwp_go g1 [] 100 _ _ _ _ ?_
  refine And.intro (fun h => ?_) (fun h => ?_) <;> rw [e6, show (1000 : Int32) = nI 1000 from rfl, nI_eq (by omega) (by decide)] at h
  · exact xri' (G := G) g2 rfl ⟨by rw [if_neg h]; rfl, b', _, rfl⟩
  · exact xri' (G := G) g2 rfl ⟨by rw [if_pos h], b', _, rfl⟩
def neaN (q : LQ) (p : Nat) : Nat := skN (ldD q none p 65535) (q 6 0) 0 0 17
theorem t_leastUnlike (d : Nat) {q : LQ} {a : Nat → Nat → Int32} {s : Nat → Int32} (hr : relS q a s) (b : Nat → Nat → Int32) (t : Nat → Int32) {p : Nat} (hp : p < 65536) : xCt xMs (d + 12) nX3_leastUnlike [.ref 0, .ref 5, .int (nI p)] (eSL b t a s) (fun v z => v = some (.int (nI (neaN q p))) ∧ ∃ b' t', z = eSL b' t' a s) := by
  have h8 := hr.1.1
  refine xV (M := mX3_leastUnlike) rfl rfl rfl rfl rfl pX3_leastUnlike rfl (fun G g1 g2 g3 => ?_)
  refine xwp_go g1 [] 100 _ _ _ _ ?_
  refine xcall (G := G) g3 pSL (t_load (d + 8) hr b t (Or.inl ⟨rfl, rfl⟩) hp (al := 65535) (by decide)) (fun v wc' hpp _ => ?_)
  obtain ⟨rfl, b', t', hl, rfl⟩ := hpp
  rw [xputSL]
  refine xwp_go g1 [] 100 _ _ _ _ ?_
  refine xcall (G := G) g3 pS (t_seekNear hl (q 6 0) (d + 11) 0 0 17 (by omega) (by omega) (by decide) (by decide)) (fun v wc' hpp _ => ?_) rfl rfl rfl rfl rfl (xsubSL b' (sU t' 2 (nI 17)) a s)
  obtain ⟨rfl, rfl⟩ := hpp
  show G 21 [some (.ref 0), some (.ref 5), some (.int (nI p))] [] (eSL b' (sU t' 2 (nI (neaN q p))) a s)
  refine xwp_go g1 [] 100 _ _ _ _ ?_
  exact xri' (G := G) g2 rfl ⟨rfl, b', _, rfl⟩
def canC (q : LQ) (x : Option Nat) : Nat → Nat
  | 0 => 0
  | i + 1 => if shB (ldD q x (q 5 i) (q 5 i)) (q 6 0) 0 0 = true then canC q x i ||| 2 ^ i else canC q x i
theorem t_showable (d : Nat) {q : LQ} {a : Nat → Nat → Int32} {s : Nat → Int32} (hr : relS q a s) (b : Nat → Nat → Int32) (t : Nat → Int32) {w : Int32} {x : Option Nat} (hw : wOut q w x) : xCt xMs (d + 12) nX3_showable [.ref 0, .ref 5, .int w] (eSL b t a s) (fun v z => v = some (.int (nI (canC q x (q 6 1)))) ∧ ∃ b' t', z = eSL b' t' a s) := by
  have h8 := hr.1.1
  have h6 := hr.1.2.1
  have h1 := hr.2.2.2.2.1
  refine xV (M := mX3_showable) rfl rfl rfl rfl rfl pX3_showable rfl (fun G g1 g2 g3 => ?_)
  refine xwp_go g1 [5] 100 _ _ _ _ ?_
  refine up (k := q 6 1) (P := fun i => ∀ u y z5 b1 t1, u = nI i → y = nI (canC q x i) → G 5 [some (.ref 0), some (.ref 5), some (.int w), some (.int y), some (.int u), z5] [] (eSL b1 t1 a s)) ?_ ?_ 0 (Nat.zero_le _) _ _ _ b t rfl rfl
  · intro u y z5 b1 t1 hu hy
    subst hu; subst hy
    refine xwp_go g1 [5] 100 _ _ _ _ ?_
    refine And.intro (fun _ => xri' (G := G) g2 rfl ⟨rfl, b1, t1, rfl⟩) (fun h => ?_)
    rw [h1] at h
    exact absurd (nI_le (Nat.le_refl _) (by omega)) h
  · intro i hi ih u y z5 b1 t1 hu hy
    subst hu; subst hy
    have hb := hr.1.2.2.2.2.2 i hi
    have es : canC q x (i + 1) = if shB (ldD q x (q 5 i) (q 5 i)) (q 6 0) 0 0 = true then canC q x i ||| 2 ^ i else canC q x i := rfl
    refine xwp_go g1 [5] 100 _ _ _ _ ?_
    refine And.intro (fun h => ?_) (fun _ => ?_)
    · rw [h1] at h
      exact absurd h (nI_ge hi (by omega))
    refine xcallR (G := G) g3 pSl (c_wantedPicture (d + 9) hr hi) ?_
    refine xwp_go g1 [5] 100 _ _ _ _ ?_
    refine xcall (G := G) g3 pSL (t_load (d + 8) hr b1 t1 hw hb hb) (fun v wc' hpp _ => ?_)
    obtain ⟨rfl, b', t', hl, rfl⟩ := hpp
    rw [xputSL]
    refine xwp_go g1 [5] 100 _ _ _ _ ?_
    refine xcallR (G := G) g3 pS (t_isShown hl (q 6 0) (d + 11) 0 0 (by omega) (by omega) (by decide)) ?_
    refine xwp_go g1 [5] 100 _ _ _ _ ?_
    refine And.intro (fun h => ?_) (fun h => ?_) <;> rw [bI_0] at h
    · exact ih _ _ _ b' t' (nI_1 i) (by rw [es, if_neg (by rw [h]; decide)])
    · rw [Bool.not_eq_false] at h
      exact ih _ _ _ b' t' (nI_1 i) (by rw [es, if_pos h, nI_pow (by omega), fa_or])
