/-! all the letters: what lantern answers; the reference's -/
def sP (T : Nat → Nat) (N : Nat) : Nat → Nat
  | 0 => 0
  | k + 1 => (stmR T N (sP T N k)).2
def lanK (T : Nat → Nat) (N : Nat) : Nat → Nat → Nat → Nat × Nat × Bool
  | 0, k, j => (k, j, true)
  | f + 1, k, j => if k = 0 ∨ j < N then (if (stmR T N j).1 = true then lanK T N f (k + 1) (stmR T N j).2 else (k, (stmR T N j).2, false)) else (k, j, true)
def runA (T : Nat → Nat) (N : Nat) (q : LQ) : Nat → Option Nat × LQ
  | 0 => (none, q)
  | k + 1 => match (runA T N q k).1 with
    | some p => (some p, (runA T N q k).2)
    | none => match appQ T N (sP T N k) (runA T N q k).2 with
      | some q2 => (none, q2)
      | none => (some (sP T N k), (runA T N q k).2)
def fgt (S : SG) : SG := (S.1, S.2.1, (0, S.2.2.1.2), S.2.2.2)
def lanR (S : SG) : Nat × Nat × Bool := lanK S.2.2.1.2 S.2.2.1.1 40 0 0
def spLantern (S : SG) : Int32 × SG := if (lanR S).2.2 = false then (-1000 - nI (lanR S).2.1, fgt S) else match (runA S.2.2.1.2 S.2.2.1.1 S.1 (lanR S).1).1 with
  | some p => (-2000 - nI p, fgt S)
  | none => (nI (lanR S).1, setQ (fgt S) (runA S.2.2.1.2 S.2.2.1.1 S.1 (lanR S).1).2)
/-- what the reference has noted of the first k statements -/
def noted (T : Nat → Nat) (N k : Nat) (f8 f9 f10 : Nat → Int32) : Prop := ∀ j, j < k → (stmR T N (sP T N j)).1 = true ∧ f8 j = nI (T (sP T N j)) ∧ f9 j = nI (sP T N j) ∧ toldF T N (sP T N j) j f10
theorem toldF_keep {T : Nat → Nat} {N i c k : Nat} {f g : Nat → Int32} (h : toldF T N i c f) (hc : c < k) (e : ∀ x, x < 4 * k → g x = f x) : toldF T N i c g := by
  obtain ⟨h1, h2⟩ := h
  refine ⟨by rw [e _ (by omega)]; exact h1, fun z => ?_⟩
  rw [e _ (by omega), e _ (by omega), e _ (by omega)]
  exact h2 z
theorem runA_stop {T : Nat → Nat} {N : Nat} {q : LQ} {k p : Nat} (h : (runA T N q k).1 = some p) : ∀ n, (runA T N q (k + n)).1 = some p
  | 0 => h
  | n + 1 => by
    have ih := runA_stop h n
    show (match (runA T N q (k + n)).1 with
      | some p => (some p, (runA T N q (k + n)).2)
      | none => _).1 = some p
    rw [ih]
