/-! the states of the class's Letters over one statement, second part -/
theorem dfa_semi {T : Nat → Nat} {N p : Nat} (hp : p ≤ N) (h : dfa T p = 23) : (p < N ∧ T p = 59 → dfaOk T N p (p + 1) true) ∧ (¬ (p < N ∧ T p = 59) → dfaOk T N p p false) := by
  refine ⟨fun c => dfaOk_end c.1 h c.2, fun c => dfaOk_bad hp (by omega) (fun hN => ?_)⟩
  rw [dfa_s, h]
  show (if T p = 59 then 0 else 24) = 24
  rw [if_neg (fun z => c ⟨hN, z⟩)]
theorem dfa_back {T : Nat → Nat} {N c e : Nat} {ok : Bool} (h : dfa T c = 7) : ∀ k, k ≤ picW T N c → dfaOk T N (c + k) e ok → dfaOk T N c e ok
  | 0, _, g => g
  | k + 1, hk, g => by
    have h16 := picW_le T N c
    have s1 := dfa_cells (N := N) h k (by omega)
    have s2 := dfa_cells (N := N) h (k + 1) hk
    exact dfa_back h k (by omega) (dfaOk_go g (by omega) (by show dfa T (c + (k + 1)) ≠ 0; omega))
theorem pic_in {T : Nat → Nat} {N c : Nat} (hc : c ≤ N) : c + picW T N c ≤ N := by
  rcases Nat.eq_zero_or_pos (picW T N c) with h | h
  · omega
  · have hh : isCl T N (c + (picW T N c - 1)) = true := runN_in (fun k => isCl T N (c + k)) 16 (picW T N c - 1) (by show _ < picW T N c; omega)
    have := (of_decide_eq_true hh).1
    omega
def celE (T : Nat → Nat) (N c : Nat) : Bool × Nat := if picW T N c = 16 then (if c + 16 < N ∧ T (c + 16) = 59 then (true, c + 17) else (false, c + 16)) else (false, c + picW T N c)
theorem dfa_pic {T : Nat → Nat} {N c : Nat} (hc : c ≤ N) (h : dfa T c = 7) : dfaOk T N c (celE T N c).2 (celE T N c).1 := by
  have hin := pic_in (T := T) hc
  have h16 := picW_le T N c
  unfold celE
  by_cases e : picW T N c = 16
  · rw [if_pos e]
    have s := dfa_cells (N := N) h 16 (by omega)
    have hs := dfa_semi (T := T) (N := N) (p := c + 16) (by omega) s
    by_cases g : c + 16 < N ∧ T (c + 16) = 59
    · rw [if_pos g]
      exact dfa_back h 16 (by omega) (hs.1 g)
    · rw [if_neg g]
      exact dfa_back h 16 (by omega) (hs.2 g)
  · rw [if_neg e]
    have s := dfa_cells (N := N) h (picW T N c) (Nat.le_refl _)
    refine dfa_back h (picW T N c) (Nat.le_refl _) (dfaOk_bad hin (by omega) (fun hN => ?_))
    have ho : isCl T N (c + picW T N c) = false := runN_out (fun k => isCl T N (c + k)) 16 (by show picW T N c < 16; omega)
    have ho := of_decide_eq_false ho
    rw [dfa_s, s, nx_cell (by omega) (by omega), if_neg (fun z => ho ⟨hN, z⟩)]
