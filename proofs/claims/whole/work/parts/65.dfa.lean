/-! the states of the class's Letters over one statement -/
theorem nx_dig1 {x st to : Nat} (h : nxtN st x = cond (dgB x) to 24) (hd : dgB x = true) : nxtN st x = to := by rw [h, hd]; rfl
theorem dg_iff {T : Nat → Nat} {N i : Nat} (h : i < N) : isDg T N i = dgB (T i) := by
  unfold isDg dgB
  exact decide_eq_decide.mpr ⟨fun z => z.2, fun z => ⟨h, z⟩⟩
theorem dg_true {T : Nat → Nat} {N i : Nat} (h : isDg T N i = true) : dgB (T i) = true := by rw [← dg_iff (dg_lt h)]; exact h
theorem nx_cell {st x : Nat} (h7 : 7 ≤ st) (h23 : st < 23) : nxtN st x = if x = 46 ∨ x = 35 then st + 1 else 24 := by unfold nxtN; rw [if_pos ⟨h7, h23⟩]
theorem dfa_s (T : Nat → Nat) (i : Nat) : dfa T (i + 1) = nxtN (dfa T i) (T i) := rfl
/-- from a place on where cells are told -/
theorem dfa_cells {T : Nat → Nat} {N c : Nat} (h : dfa T c = 7) : ∀ k, k ≤ picW T N c → dfa T (c + k) = 7 + k
  | 0, _ => h
  | k + 1, hk => by
    have ih := dfa_cells (N := N) h k (by omega)
    have h16 := picW_le T N c
    have hc : isCl T N (c + k) = true := runN_in (fun k => isCl T N (c + k)) 16 k (by show k < picW T N c; omega)
    show nxtN (dfa T (c + k)) (T (c + k)) = _
    rw [ih, nx_cell (by omega) (by omega), if_pos (of_decide_eq_true hc).2]
    omega
/-- what the states say of a statement at i -/
def dfaOk (T : Nat → Nat) (N i e : Nat) (ok : Bool) : Prop := (∀ j, i ≤ j → j ≤ e → dfa T j ≤ 23) ∧ i ≤ e ∧ e ≤ N ∧ (ok = true → dfa T e = 0) ∧ (ok = false → (e < N → dfa T (e + 1) = 24) ∧ (e = N → e = i ∨ dfa T e ≠ 0))
/-- one sign further -/
theorem dfaOk_go {T : Nat → Nat} {N i e : Nat} {ok : Bool} (h : dfaOk T N (i + 1) e ok) (h0 : dfa T i ≤ 23) (h1 : dfa T (i + 1) ≠ 0) : dfaOk T N i e ok := by
  obtain ⟨a1, a2, a3, a4, a5⟩ := h
  refine ⟨fun j hj he => ?_, by omega, a3, a4, fun ho => ⟨(a5 ho).1, fun en => Or.inr ?_⟩⟩
  · by_cases ej : j = i
    · rw [ej]; exact h0
    · exact a1 j (by omega) he
  · rcases (a5 ho).2 en with g | g
    · rw [g]; exact h1
    · exact g
theorem dfaOk_bad {T : Nat → Nat} {N i : Nat} (hi : i ≤ N) (h0 : dfa T i ≤ 23) (h1 : i < N → dfa T (i + 1) = 24) : dfaOk T N i i false := ⟨fun j hj he => by rw [show j = i by omega]; exact h0, Nat.le_refl _, hi, fun h => (by cases h), fun _ => ⟨h1, fun _ => Or.inl rfl⟩⟩
theorem dfaOk_end {T : Nat → Nat} {N i : Nat} (hi : i < N) (h0 : dfa T i = 23) (hT : T i = 59) : dfaOk T N i (i + 1) true := by
  have h1 : dfa T (i + 1) = 0 := by rw [dfa_s, h0, hT]; rfl
  refine ⟨fun j hj he => ?_, by omega, by omega, fun _ => h1, fun h => (by cases h)⟩
  by_cases e : j = i
  · rw [e, h0]; decide
  · rw [show j = i + 1 by omega, h1]; decide
