/-! a statement that has the form: how long it is, its numbers' bounds -/
theorem pcvN_lt (T : Nat → Nat) (i : Nat) : ∀ k, pcvN T i k < 2 ^ k
  | 0 => (show 0 < 2 ^ 0 by decide)
  | k + 1 => by
    have ih := pcvN_lt T i k
    refine Nat.or_lt_two_pow (up1 ih) ?_
    split
    · exact Nat.pow_lt_pow_right (by decide) (Nat.lt_succ_self k)
    · exact Nat.two_pow_pos _
theorem dg_le {T : Nat → Nat} {N j : Nat} (h : isDg T N j = true) : T j - 48 ≤ 9 := by
  have := (of_decide_eq_true h).2
  omega
theorem prcW_pos {T : Nat → Nat} {N j : Nat} (h : isDg T N j = true) : 1 ≤ prcW T N j := by
  have h1 : runN (fun k => isDg T N (j + k)) 1 = 1 := dg_one h
  show 1 ≤ (if runN (fun k => isDg T N (j + k)) 1 = 1 ∧ isDg T N (j + 1) = true then 1 + 1 else runN (fun k => isDg T N (j + k)) 1)
  split <;> omega
theorem val_le {T : Nat → Nat} {N j : Nat} (h : isDg T N j = true) : valN T j (prcW T N j) ≤ 99 := by
  have h1 := prcW_pos h
  have h2 := prcW_le T N j
  have d0 := dg_le h
  rcases (by omega : prcW T N j = 1 ∨ prcW T N j = 2) with e | e
  · rw [e, val_one]; omega
  · have hd : isDg T N (j + 1) = true := runN_in (fun k => isDg T N (j + k)) 2 1 (by show 1 < prcW T N j; omega)
    have d1 := dg_le hd
    rw [e]
    show 10 * valN T j 1 + (T (j + 1) - 48) ≤ 99
    rw [val_one]; omega
theorem sld_ok {T : Nat → Nat} {N j : Nat} (h : (sldR T N j).1 = true) : isDg T N j = true ∧ isDg T N (j + 1) = true ∧ isDg T N (j + 2) = true ∧ (j + 2 + prcW T N (j + 2) < N ∧ T (j + 2 + prcW T N (j + 2)) = 44) ∧ picW T N (j + 3 + prcW T N (j + 2)) = 16 ∧ (sldR T N j).2 = j + 3 + prcW T N (j + 2) + 16 := by
  have es : sldR T N j = if isDg T N j = false then (false, j) else if isDg T N (j + 1) = false then (false, j + 1) else if isDg T N (j + 2) = false then (false, j + 2) else if ¬ (j + 2 + prcW T N (j + 2) < N ∧ T (j + 2 + prcW T N (j + 2)) = 44) then (false, j + 2 + prcW T N (j + 2)) else (decide (picW T N (j + 3 + prcW T N (j + 2)) = 16), j + 3 + prcW T N (j + 2) + picW T N (j + 3 + prcW T N (j + 2))) := rfl
  generalize picW T N (j + 3 + prcW T N (j + 2)) = r at *
  by_cases h1 : isDg T N j = false
  · rw [if_pos h1] at es; rw [es] at h; cases h
  rw [if_neg h1] at es
  by_cases h2 : isDg T N (j + 1) = false
  · rw [if_pos h2] at es; rw [es] at h; cases h
  rw [if_neg h2] at es
  by_cases h3 : isDg T N (j + 2) = false
  · rw [if_pos h3] at es; rw [es] at h; cases h
  rw [if_neg h3] at es
  by_cases h4 : j + 2 + prcW T N (j + 2) < N ∧ T (j + 2 + prcW T N (j + 2)) = 44
  · rw [if_neg (fun z => z h4)] at es
    rw [es] at h
    have h5 : r = 16 := of_decide_eq_true h
    rw [Bool.not_eq_false] at h1 h2 h3
    exact ⟨h1, h2, h3, h4, h5, by rw [es, h5]⟩
  · rw [if_pos h4] at es; rw [es] at h; cases h
/-- the three forms -/
theorem stm_ok {T : Nat → Nat} {N i : Nat} (h : (stmR T N i).1 = true) : ((T i = 115 ∧ (sldR T N (i + 1)).1 = true ∧ (stmR T N i).2 = i + 21 + prcW T N (i + 3)) ∨ (T i = 119 ∧ picW T N (i + 1) = 16 ∧ (stmR T N i).2 = i + 18) ∨ (T i = 104 ∧ isDg T N (i + 1) = true ∧ (stmR T N i).2 = i + 3)) ∧ (stmR T N i).2 ≤ N ∧ T ((stmR T N i).2 - 1) = 59 := by
  have es : stmR T N i = if isOp T N i = false then (false, i) else if (bodR T N i).1 = false then (false, (bodR T N i).2) else if ¬ ((bodR T N i).2 < N ∧ T (bodR T N i).2 = 59) then (false, (bodR T N i).2) else (true, (bodR T N i).2 + 1) := rfl
  by_cases hop : isOp T N i = false
  · rw [if_pos hop] at es; rw [es] at h; cases h
  rw [if_neg hop] at es
  rw [Bool.not_eq_false] at hop
  obtain ⟨hiN, hop3⟩ := of_decide_eq_true hop
  by_cases hb : (bodR T N i).1 = false
  · rw [if_pos hb] at es; rw [es] at h; cases h
  rw [if_neg hb] at es
  rw [Bool.not_eq_false] at hb
  by_cases h5 : (bodR T N i).2 < N ∧ T (bodR T N i).2 = 59
  · rw [if_neg (fun z => z h5)] at es
    have e2 : (stmR T N i).2 = (bodR T N i).2 + 1 := by rw [es]
    rw [e2]
    refine ⟨?_, by omega, by rw [Nat.add_sub_cancel]; exact h5.2⟩
    rcases hop3 with e | e | e
    · have eb : bodR T N i = sldR T N (i + 1) := by unfold bodR; rw [if_pos e]
      rw [eb] at hb ⊢
      have hs := sld_ok hb
      exact Or.inl ⟨e, hb, by rw [hs.2.2.2.2.2]; show i + 1 + 3 + prcW T N (i + 3) + 16 + 1 = _; omega⟩
    · have eb : bodR T N i = (decide (picW T N (i + 1) = 16), i + 1 + picW T N (i + 1)) := by unfold bodR; rw [if_neg (by omega), if_pos e]
      generalize picW T N (i + 1) = r at eb ⊢
      rw [eb] at hb ⊢
      have hr : r = 16 := of_decide_eq_true hb
      exact Or.inr (Or.inl ⟨e, hr, by show i + 1 + r + 1 = _; omega⟩)
    · have eb : bodR T N i = if isDg T N (i + 1) = true then (true, i + 2) else (false, i + 1) := by unfold bodR; rw [if_neg (by omega), if_neg (by omega)]
      by_cases hd : isDg T N (i + 1) = true
      · rw [if_pos hd] at eb
        rw [eb]
        exact Or.inr (Or.inr ⟨e, hd, rfl⟩)
      · rw [if_neg hd] at eb
        rw [eb] at hb; cases hb
  · rw [if_pos h5] at es; rw [es] at h; cases h
theorem stm_len {T : Nat → Nat} {N i : Nat} (h : (stmR T N i).1 = true) : i + 3 ≤ (stmR T N i).2 ∧ (stmR T N i).2 ≤ N := by
  obtain ⟨h1, h2, -⟩ := stm_ok h
  refine ⟨?_, h2⟩
  rcases h1 with g | g | g <;> omega
theorem stm_dat {T : Nat → Nat} {N i : Nat} (h : (stmR T N i).1 = true) : datB T N i := by
  obtain ⟨h1, -, -⟩ := stm_ok h
  rcases h1 with ⟨e, g, -⟩ | ⟨e, g, -⟩ | ⟨e, g, -⟩
  · obtain ⟨a1, a2, a3, -, -, -⟩ := sld_ok g
    refine Or.inl ⟨e, ?_, ?_, ?_, ?_⟩
    · show (if T i = 119 then _ else T (i + 1) - 48) ≤ 9
      rw [if_neg (by omega)]; exact dg_le a1
    · exact dg_le a2
    · exact val_le a3
    · exact pcvN_lt T _ 16
  · refine Or.inr (Or.inl ⟨e, ?_⟩)
    show (if T i = 119 then pcvN T (i + 1) 16 else _) < 65536
    rw [if_pos e]; exact pcvN_lt T _ 16
  · refine Or.inr (Or.inr ⟨e, ?_⟩)
    show (if T i = 119 then _ else T (i + 1) - 48) ≤ 9
    rw [if_neg (by omega)]; exact dg_le g
