/-! the states of the class's Letters over one statement, all of it -/
theorem dg_bad {T : Nat → Nat} {N p st to : Nat} (hp : p ≤ N) (hs : dfa T p = st) (h23 : st ≤ 23) (hn : ∀ x, nxtN st x = cond (dgB x) to 24) (hd : isDg T N p = false) : dfaOk T N p p false := by
  refine dfaOk_bad hp (by omega) (fun hN => ?_)
  rw [dfa_s, hs, hn, ← dg_iff hN, hd]
  rfl
theorem dg_go {T : Nat → Nat} {N p st to : Nat} (hs : dfa T p = st) (hn : ∀ x, nxtN st x = cond (dgB x) to 24) (hd : isDg T N p = true) : dfa T (p + 1) = to := by rw [dfa_s, hs, hn, dg_true hd]; rfl
theorem prcW_val {T : Nat → Nat} {N j : Nat} (h : isDg T N j = true) : prcW T N j = if isDg T N (j + 1) = true then 2 else 1 := by
  have h1 : runN (fun k => isDg T N (j + k)) 1 = 1 := dg_one h
  show (if runN (fun k => isDg T N (j + k)) 1 = 1 ∧ isDg T N (j + 1) = true then 1 + 1 else runN (fun k => isDg T N (j + k)) 1) = _
  rw [h1]
  by_cases e : isDg T N (j + 1) = true
  · rw [if_pos ⟨rfl, e⟩, if_pos e]
  · rw [if_neg (fun z => e z.2), if_neg e]
/-- a slide behind its letter: as far as its body, and the semicolon -/
def sldE (T : Nat → Nat) (N j : Nat) : Bool × Nat := if isDg T N j = false then (false, j) else if isDg T N (j + 1) = false then (false, j + 1) else if isDg T N (j + 2) = false then (false, j + 2) else if ¬ (j + 2 + prcW T N (j + 2) < N ∧ T (j + 2 + prcW T N (j + 2)) = 44) then (false, j + 2 + prcW T N (j + 2)) else celE T N (j + 3 + prcW T N (j + 2))
theorem dfa_sld {T : Nat → Nat} {N j : Nat} (hj : j ≤ N) (h : dfa T j = 1) : dfaOk T N j (sldE T N j).2 (sldE T N j).1 := by
  unfold sldE
  by_cases h1 : isDg T N j = false
  · rw [if_pos h1]
    exact dg_bad (to := 2) hj h (by decide) (fun _ => rfl) h1
  rw [if_neg h1]
  rw [Bool.not_eq_false] at h1
  have s1 := dg_go (to := 2) h (fun _ => rfl) h1
  have l1 := dg_lt h1
  by_cases h2 : isDg T N (j + 1) = false
  · rw [if_pos h2]
    exact dfaOk_go (dg_bad (to := 3) (by omega) s1 (by decide) (fun _ => rfl) h2) (by omega) (by omega)
  rw [if_neg h2]
  rw [Bool.not_eq_false] at h2
  have s2 := dg_go (to := 3) s1 (fun _ => rfl) h2
  have l2 := dg_lt h2
  by_cases h3 : isDg T N (j + 2) = false
  · rw [if_pos h3]
    exact dfaOk_go (dfaOk_go (dg_bad (to := 4) (by omega) s2 (by decide) (fun _ => rfl) h3) (by omega) (by omega)) (by omega) (by omega)
  rw [if_neg h3]
  rw [Bool.not_eq_false] at h3
  have s3 := dg_go (to := 4) s2 (fun _ => rfl) h3
  have l3 := dg_lt h3
  have pv := prcW_val h3
  have fin : ∀ e ok, dfaOk T N (j + 2 + prcW T N (j + 2)) e ok → dfaOk T N j e ok := by
    intro e ok g
    by_cases h4 : isDg T N (j + 2 + 1) = true
    · rw [if_pos h4] at pv
      have s4 : dfa T (j + 2 + 1 + 1) = 5 := by
        rw [dfa_s, s3]
        show cond (dgB (T (j + 2 + 1))) 5 _ = 5
        rw [dg_true h4]; rfl
      rw [pv] at g
      exact dfaOk_go (dfaOk_go (dfaOk_go (dfaOk_go g (by rw [s3]; decide) (by rw [s4]; decide)) (by omega) (by omega)) (by omega) (by omega)) (by omega) (by omega)
    · rw [if_neg h4] at pv
      rw [pv] at g
      exact dfaOk_go (dfaOk_go (dfaOk_go g (by omega) (by omega)) (by omega) (by omega)) (by omega) (by omega)
  -- the state where the comma is due
  have sc : (dfa T (j + 2 + prcW T N (j + 2)) = 4 ∧ isDg T N (j + 2 + prcW T N (j + 2)) = false) ∨ dfa T (j + 2 + prcW T N (j + 2)) = 5 := by
    by_cases h4 : isDg T N (j + 2 + 1) = true
    · rw [if_pos h4] at pv
      rw [pv]
      refine Or.inr ?_
      show dfa T (j + 2 + 1 + 1) = 5
      rw [dfa_s, s3]
      show cond (dgB (T (j + 2 + 1))) 5 _ = 5
      rw [dg_true h4]; rfl
    · rw [if_neg h4] at pv
      rw [pv]
      exact Or.inl ⟨s3, by simpa using h4⟩
  have lN : j + 2 + prcW T N (j + 2) ≤ N := by
    by_cases h4 : isDg T N (j + 2 + 1) = true
    · rw [if_pos h4] at pv
      have := dg_lt h4
      omega
    · rw [if_neg h4] at pv
      omega
  have sle : dfa T (j + 2 + prcW T N (j + 2)) ≤ 23 := by rcases sc with g | g <;> omega
  have nxc : j + 2 + prcW T N (j + 2) < N → dfa T (j + 2 + prcW T N (j + 2) + 1) = if T (j + 2 + prcW T N (j + 2)) = 44 then 7 else 24 := by
    intro hN
    rw [dfa_s]
    rcases sc with ⟨g, g2⟩ | g
    · rw [g]
      show cond (dgB _) 5 (if _ then 7 else 24) = _
      rw [← dg_iff hN, g2]; rfl
    · rw [g]; rfl
  by_cases hc : j + 2 + prcW T N (j + 2) < N ∧ T (j + 2 + prcW T N (j + 2)) = 44
  · rw [if_neg (fun z => z hc)]
    refine fin _ _ ?_
    have s7 : dfa T (j + 2 + prcW T N (j + 2) + 1) = 7 := by rw [nxc hc.1, if_pos hc.2]
    have ec : j + 3 + prcW T N (j + 2) = j + 2 + prcW T N (j + 2) + 1 := by omega
    rw [ec]
    exact dfaOk_go (dfa_pic (by omega) s7) sle (by omega)
  · rw [if_pos hc]
    exact fin _ _ (dfaOk_bad lN sle (fun hN => by rw [nxc hN, if_neg (fun z => hc ⟨hN, z⟩)]))
theorem stm_sld {T : Nat → Nat} {N i : Nat} (hi : i < N) (h : T i = 115) : stmR T N i = sldE T N (i + 1) := by
  have hop : isOp T N i = true := decide_eq_true ⟨hi, Or.inl h⟩
  have eb : bodR T N i = sldR T N (i + 1) := by unfold bodR; rw [if_pos h]
  unfold stmR
  rw [if_neg (by rw [hop]; decide), eb]
  unfold sldR sldE celE
  generalize picW T N (i + 1 + 3 + prcW T N (i + 1 + 2)) = r
  by_cases h1 : isDg T N (i + 1) = false
  · rw [if_pos h1, if_pos h1]; rfl
  rw [if_neg h1, if_neg h1]
  by_cases h2 : isDg T N (i + 1 + 1) = false
  · rw [if_pos h2, if_pos h2]; rfl
  rw [if_neg h2, if_neg h2]
  by_cases h3 : isDg T N (i + 1 + 2) = false
  · rw [if_pos h3, if_pos h3]; rfl
  rw [if_neg h3, if_neg h3]
  by_cases h4 : i + 1 + 2 + prcW T N (i + 1 + 2) < N ∧ T (i + 1 + 2 + prcW T N (i + 1 + 2)) = 44
  · have hn4 : ¬ ¬ (i + 1 + 2 + prcW T N (i + 1 + 2) < N ∧ T (i + 1 + 2 + prcW T N (i + 1 + 2)) = 44) := fun z => z h4
    rw [if_neg hn4, if_neg hn4]
    by_cases e : r = 16
    · rw [if_pos e, if_neg (show ¬ (decide (r = 16), i + 1 + 3 + prcW T N (i + 1 + 2) + r).1 = false from by rw [decide_eq_true e]; exact (show ¬ true = false by decide))]
      show (if ¬ (i + 1 + 3 + prcW T N (i + 1 + 2) + r < N ∧ T (i + 1 + 3 + prcW T N (i + 1 + 2) + r) = 59) then (false, i + 1 + 3 + prcW T N (i + 1 + 2) + r) else (true, i + 1 + 3 + prcW T N (i + 1 + 2) + r + 1)) = _
      rw [e]
      by_cases h5 : i + 1 + 3 + prcW T N (i + 1 + 2) + 16 < N ∧ T (i + 1 + 3 + prcW T N (i + 1 + 2) + 16) = 59
      · rw [if_neg (fun z => z h5), if_pos h5]
      · rw [if_pos h5, if_neg h5]
    · rw [if_neg e, if_pos (show (decide (r = 16), i + 1 + 3 + prcW T N (i + 1 + 2) + r).1 = false from decide_eq_false e)]
  · rw [if_pos h4, if_pos h4]; rfl
