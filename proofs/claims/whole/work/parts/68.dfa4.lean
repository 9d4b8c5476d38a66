/-! the states of the class's Letters over all statements: its fault is the reference's -/
theorem nx_open {T : Nat → Nat} {i : Nat} (h : dfa T i = 0) : dfa T (i + 1) = opnN (T i) := by rw [dfa_s, h]; rfl
theorem stm_pic {T : Nat → Nat} {N i : Nat} (hi : i < N) (h : T i = 119) : stmR T N i = celE T N (i + 1) := by
  have hop : isOp T N i = true := decide_eq_true ⟨hi, Or.inr (Or.inl h)⟩
  have eb : bodR T N i = (decide (picW T N (i + 1) = 16), i + 1 + picW T N (i + 1)) := by unfold bodR; rw [if_neg (by omega), if_pos h]
  unfold stmR
  rw [if_neg (by rw [hop]; decide), eb]
  unfold celE
  generalize picW T N (i + 1) = r
  by_cases e : r = 16
  · rw [if_pos e, if_neg (show ¬ (decide (r = 16), i + 1 + r).1 = false from by rw [decide_eq_true e]; exact (show ¬ true = false by decide))]
    show (if ¬ (i + 1 + r < N ∧ T (i + 1 + r) = 59) then (false, i + 1 + r) else (true, i + 1 + r + 1)) = _
    rw [e]
    by_cases h5 : i + 1 + 16 < N ∧ T (i + 1 + 16) = 59
    · rw [if_neg (fun z => z h5), if_pos h5]
    · rw [if_pos h5, if_neg h5]
  · rw [if_neg e, if_pos (show (decide (r = 16), i + 1 + r).1 = false from decide_eq_false e)]
theorem dfa_stm {T : Nat → Nat} {N i : Nat} (hi : i ≤ N) (h : dfa T i = 0) : dfaOk T N i (stmR T N i).2 (stmR T N i).1 := by
  have ho := nx_open h
  unfold opnN at ho
  by_cases hop : isOp T N i = false
  · have e : stmR T N i = (false, i) := by unfold stmR; rw [if_pos hop]
    rw [e]
    refine dfaOk_bad hi (by omega) (fun hN => ?_)
    have hn := of_decide_eq_false hop
    rw [ho, if_neg (fun z => hn ⟨hN, Or.inr (Or.inr z)⟩), if_neg (fun z => hn ⟨hN, Or.inl z⟩), if_neg (fun z => hn ⟨hN, Or.inr (Or.inl z)⟩)]
  rw [Bool.not_eq_false] at hop
  obtain ⟨hN, h3⟩ := of_decide_eq_true hop
  rcases h3 with e | e | e
  · rw [stm_sld hN e]
    rw [if_neg (by omega), if_pos e] at ho
    exact dfaOk_go (dfa_sld (by omega) ho) (by omega) (by omega)
  · rw [stm_pic hN e]
    rw [if_neg (by omega), if_neg (by omega), if_pos e] at ho
    exact dfaOk_go (dfa_pic (by omega) ho) (by omega) (by omega)
  · rw [if_pos e] at ho
    have eb : bodR T N i = if isDg T N (i + 1) = true then (true, i + 2) else (false, i + 1) := by unfold bodR; rw [if_neg (by omega), if_neg (by omega)]
    have es : stmR T N i = if (bodR T N i).1 = false then (false, (bodR T N i).2) else if ¬ ((bodR T N i).2 < N ∧ T (bodR T N i).2 = 59) then (false, (bodR T N i).2) else (true, (bodR T N i).2 + 1) := by unfold stmR; rw [if_neg (by rw [hop]; decide)]
    by_cases h1 : isDg T N (i + 1) = true
    · rw [if_pos h1] at eb
      rw [eb] at es
      have es : stmR T N i = if ¬ (i + 2 < N ∧ T (i + 2) = 59) then (false, i + 2) else (true, i + 2 + 1) := es
      have s2 : dfa T (i + 2) = 23 := dg_go (to := 23) ho (fun _ => rfl) h1
      have l1 := dg_lt h1
      have hs := dfa_semi (T := T) (N := N) (p := i + 2) (by omega) s2
      by_cases h5 : i + 2 < N ∧ T (i + 2) = 59
      · rw [if_neg (fun z => z h5)] at es
        rw [es]
        exact dfaOk_go (dfaOk_go (hs.1 h5) (by omega) (by show dfa T (i + 2) ≠ 0; omega)) (by omega) (by omega)
      · rw [if_pos h5] at es
        rw [es]
        exact dfaOk_go (dfaOk_go (hs.2 h5) (by omega) (by show dfa T (i + 2) ≠ 0; omega)) (by omega) (by omega)
    · rw [if_neg h1] at eb
      rw [eb] at es
      have es : stmR T N i = (false, i + 1) := es
      rw [es]
      exact dfaOk_go (dg_bad (to := 23) (by omega) ho (by decide) (fun _ => rfl) (by simpa using h1)) (by omega) (by omega)
/-- all statements: what the states are where the walk over them ends -/
theorem dfa_lan {T : Nat → Nat} {N : Nat} : ∀ f k j, j ≤ N → N < j + 3 * f → dfa T j = 0 → (∀ i, i ≤ j → dfa T i ≤ 23) → (k = 0 → j = 0) → (k ≠ 0 → 0 < j) →
    ((lanK T N f k j).2.2 = true → 0 < N ∧ (∀ i, i ≤ N → dfa T i ≤ 23) ∧ dfa T N = 0) ∧ ((lanK T N f k j).2.2 = false → (lanK T N f k j).2.1 ≤ N ∧ (∀ i, i ≤ (lanK T N f k j).2.1 → dfa T i ≤ 23) ∧ ((lanK T N f k j).2.1 < N → dfa T ((lanK T N f k j).2.1 + 1) = 24) ∧ ((lanK T N f k j).2.1 = N → N = 0 ∨ dfa T N ≠ 0))
  | 0, k, j, hj, hf, _, _, _, _ => by omega
  | f + 1, k, j, hj, hf, h0, hb, hk, hk2 => by
    have el : lanK T N (f + 1) k j = if k = 0 ∨ j < N then (if (stmR T N j).1 = true then lanK T N f (k + 1) (stmR T N j).2 else (k, (stmR T N j).2, false)) else (k, j, true) := rfl
    have hs := dfa_stm hj h0
    by_cases hgo : k = 0 ∨ j < N
    · rw [if_pos hgo] at el
      cases hok : (stmR T N j).1 with
      | true =>
        rw [if_pos hok] at el
        rw [hok] at hs
        obtain ⟨b1, b2, b3, b4, -⟩ := hs
        obtain ⟨l1, l2⟩ := stm_len hok
        rw [el]
        refine dfa_lan f (k + 1) _ b3 (by omega) (b4 rfl) (fun i hi => ?_) (fun z => absurd z (Nat.succ_ne_zero k)) (fun _ => by omega)
        by_cases c : i ≤ j
        · exact hb i c
        · exact b1 i (by omega) hi
      | false =>
        rw [if_neg (by rw [hok]; decide)] at el
        rw [hok] at hs
        obtain ⟨b1, b2, b3, -, b5⟩ := hs
        obtain ⟨c1, c2⟩ := b5 rfl
        rw [el]
        refine ⟨fun h => (by cases h), fun _ => ⟨b3, fun i hi => ?_, c1, fun e => ?_⟩⟩
        · by_cases c : i ≤ j
          · exact hb i c
          · exact b1 i (by omega) hi
        · rcases c2 e with g | g
          · left
            have e : (stmR T N j).2 = N := e
            rcases hgo with z | z
            · have := hk z; omega
            · omega
          · right
            have e : (stmR T N j).2 = N := e
            rw [← e]; exact g
    · rw [if_neg hgo] at el
      rw [el]
      have hjN : j = N := by omega
      refine ⟨fun _ => ⟨?_, by rw [← hjN]; exact hb, by rw [← hjN]; exact h0⟩, fun h => (by cases h)⟩
      have := hk2 (fun z => hgo (Or.inl z))
      omega
/-- the class's fault is the reference's -/
theorem flt_lan {T : Nat → Nat} {N : Nat} (h80 : N ≤ 80) {v : Int32} (h : fltI T N v) : v = if (lanK T N 40 0 0).2.2 = false then -1000 - nI (lanK T N 40 0 0).2.1 else 0 := by
  obtain ⟨w1, w2⟩ := dfa_lan (T := T) (N := N) 40 0 0 (Nat.zero_le _) (by omega) rfl (fun i hi => by rw [show i = 0 by omega]; exact Nat.zero_le _) (fun _ => rfl) (fun z => absurd rfl z)
  generalize lanK T N 40 0 0 = r at w1 w2
  by_cases hr : r.2.2 = false
  · rw [if_pos hr]
    obtain ⟨a1, a2, a3, a4⟩ := w2 hr
    rcases h with ⟨p, p1, p2, p3, p4⟩ | ⟨p1, p2⟩
    · have e1 : r.2.1 ≤ p := by
        rcases Nat.lt_or_ge p r.2.1 with c | c
        · have := a2 (p + 1) c; omega
        · exact c
      have e2 : p ≤ r.2.1 := by
        rcases Nat.lt_or_ge r.2.1 p with c | c
        · have := p2 (r.2.1 + 1) c
          have := a3 (by omega)
          omega
        · exact c
      rw [p4, show r.2.1 = p by omega]
    · have e : r.2.1 = N := by
        rcases Nat.lt_or_ge r.2.1 N with c | c
        · have := p1 (r.2.1 + 1) c
          have := a3 c
          omega
        · omega
      rw [p2, e, if_neg (fun z => ?_)]
      rcases a4 e with g | g
      · omega
      · exact g z.2
  · rw [if_neg hr]
    rw [Bool.not_eq_false] at hr
    obtain ⟨a1, a2, a3⟩ := w1 hr
    rcases h with ⟨p, p1, p2, p3, p4⟩ | ⟨p1, p2⟩
    · have := a2 (p + 1) p1
      omega
    · rw [p2, if_pos ⟨a1, a3⟩]
/-- no semicolon inside a statement -/
theorem stm_no {T : Nat → Nat} {N i : Nat} (hok : (stmR T N i).1 = true) : ∀ j, i ≤ j → j < (stmR T N i).2 - 1 → T j ≠ 59 := by
  obtain ⟨h3, hle, -⟩ := stm_ok hok
  have cel : ∀ c j, picW T N c = 16 → c ≤ j → j < c + 16 → T j ≠ 59 := by
    intro c j hw h1 h2
    have hc : isCl T N (c + (j - c)) = true := runN_in (fun k => isCl T N (c + k)) 16 (j - c) (by show j - c < picW T N c; omega)
    have := (of_decide_eq_true hc).2
    rw [show c + (j - c) = j by omega] at this
    omega
  have dig : ∀ j, isDg T N j = true → T j ≠ 59 := by
    intro j hd
    have := (of_decide_eq_true hd).2
    omega
  intro j h1 h2
  rcases h3 with ⟨e, g, e2⟩ | ⟨e, g, e2⟩ | ⟨e, g, e2⟩
  · obtain ⟨a1, a2, a3, a4, a5, a6⟩ := sld_ok g
    by_cases c0 : j = i
    · rw [c0]; omega
    by_cases c1 : j = i + 1
    · rw [c1]; exact dig _ a1
    by_cases c2 : j = i + 2
    · rw [c2]; exact dig _ a2
    have a4 : T (i + 3 + prcW T N (i + 3)) = 44 := a4.2
    have a5 : picW T N (i + 4 + prcW T N (i + 3)) = 16 := by rw [show i + 4 + prcW T N (i + 3) = i + 1 + 3 + prcW T N (i + 1 + 2) by show i + 4 + prcW T N (i + 3) = i + 1 + 3 + prcW T N (i + 3); omega]; exact a5
    by_cases c3 : j < i + 3 + prcW T N (i + 3)
    · have hd : isDg T N (i + 3 + (j - (i + 3))) = true := runN_in (fun k => isDg T N (i + 3 + k)) 2 (j - (i + 3)) (by show _ < prcW T N (i + 3); omega)
      rw [show i + 3 + (j - (i + 3)) = j by omega] at hd
      exact dig _ hd
    by_cases c4 : j = i + 3 + prcW T N (i + 3)
    · rw [c4, a4]; decide
    exact cel _ j a5 (by omega) (by omega)
  · by_cases c0 : j = i
    · rw [c0]; omega
    exact cel _ j g (by omega) (by omega)
  · by_cases c0 : j = i
    · rw [c0]; omega
    rw [show j = i + 1 by omega]; exact dig _ g
