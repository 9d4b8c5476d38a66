/-! the class's Letters: stateBehind -/
def dgB (x : Nat) : Bool := decide (48 ≤ x ∧ x ≤ 57)
def nxtN (st x : Nat) : Nat := if 7 ≤ st ∧ st < 23 then (if x = 46 ∨ x = 35 then st + 1 else 24) else match st with
  | 0 => opnN x
  | 1 => cond (dgB x) 2 24
  | 2 => cond (dgB x) 3 24
  | 3 => cond (dgB x) 4 24
  | 4 => cond (dgB x) 5 (if x = 44 then 7 else 24)
  | 5 => if x = 44 then 7 else 24
  | 6 => cond (dgB x) 23 24
  | 23 => if x = 59 then 0 else 24
  | _ => 24
theorem t_stateBehind (d : Nat) (ws : xH) {st x : Nat} (hs : st ≤ 23) (hx : x ≤ 255) : xCt xMs (d + 2) nX2_stateBehind [.int (nI st), .int (nI x)] ws (xRet (stI (nxtN st x)) ws) := by
  refine xS (M := mX2_stateBehind) rfl rfl pX2_stateBehind rfl (fun G g1 g2 g3 => ?_)
  by_cases hc : 7 ≤ st ∧ st < 23
  · have en : nxtN st x = if x = 46 ∨ x = 35 then st + 1 else 24 := by unfold nxtN; rw [if_pos hc]
    rw [en] at g2
    refine xwp_go g1 [] 100 _ _ _ _ ?_
    refine And.intro (fun h => absurd h (nI_nlt (b := 7) (by omega) (by omega))) (fun _ => ?_)
    refine And.intro (fun h => absurd h (nI_ge (b := 23) (by omega) (by decide))) (fun _ => ?_)
    have es : nI st + 1 = stI (st + 1) := by unfold stI; rw [if_neg (by omega), nI_1]
    refine And.intro (fun h => ?_) (fun h => ?_) <;> rw [show (46 : Int32) = nI 46 from rfl, nI_eq (by omega) (by decide)] at h
    · rw [if_pos (Or.inl h)] at g2
      exact xri (G := G) g2 rfl es rfl
    refine And.intro (fun h2 => ?_) (fun h2 => ?_) <;> rw [show (35 : Int32) = nI 35 from rfl, nI_eq (by omega) (by decide)] at h2
    · rw [if_neg (by omega)] at g2
      exact xri (G := G) g2 rfl rfl rfl
    · rw [if_pos (Or.inr h2)] at g2
      exact xri (G := G) g2 rfl es rfl
  have hst : st = 0 ∨ st = 1 ∨ st = 2 ∨ st = 3 ∨ st = 4 ∨ st = 5 ∨ st = 6 ∨ st = 23 := by omega
  rcases hst with rfl | rfl | rfl | rfl | rfl | rfl | rfl | rfl
  · refine xwp_go g1 [] 100 _ _ _ _ ?_
    refine And.intro (fun _ => ?_) (fun h => absurd (by decide) h)
    refine And.intro (fun _ => ?_) (fun h => absurd rfl h)
    refine xcallR (G := G) g3 [] (t_stateOpened d [] hx) ?_
    refine xwp_go g1 [] 100 _ _ _ _ ?_
    exact xri (G := G) g2 rfl rfl rfl
  · refine xwp_go g1 [] 100 _ _ _ _ ?_
    refine And.intro (fun _ => ?_) (fun h => absurd (by decide) h)
    refine And.intro (fun h => absurd h (by decide)) (fun _ => ?_)
    refine And.intro (fun _ => ?_) (fun h => absurd rfl h)
    refine xcallR (G := G) g3 [] (t_isDigit d [] hx) ?_
    have en : nxtN 1 x = cond (dgB x) 2 24 := rfl
    rw [en] at g2
    rw [show decide (48 ≤ x ∧ x ≤ 57) = dgB x from rfl]
    cases hd : dgB x with
    | true =>
      rw [hd] at g2
      refine xwp_go g1 [] 100 _ _ _ _ ?_
      exact And.intro (fun h => absurd h (by decide)) (fun _ => xri (G := G) g2 rfl rfl rfl)
    | false =>
      rw [hd] at g2
      refine xwp_go g1 [] 100 _ _ _ _ ?_
      exact And.intro (fun _ => xri (G := G) g2 rfl rfl rfl) (fun h => absurd rfl h)
  · refine xwp_go g1 [] 100 _ _ _ _ ?_
    refine And.intro (fun _ => ?_) (fun h => absurd (by decide) h)
    refine And.intro (fun h => absurd h (by decide)) (fun _ => ?_)
    refine And.intro (fun h => absurd h (by decide)) (fun _ => ?_)
    refine And.intro (fun _ => ?_) (fun h => absurd rfl h)
    refine xcallR (G := G) g3 [] (t_isDigit d [] hx) ?_
    have en : nxtN 2 x = cond (dgB x) 3 24 := rfl
    rw [en] at g2
    rw [show decide (48 ≤ x ∧ x ≤ 57) = dgB x from rfl]
    cases hd : dgB x with
    | true =>
      rw [hd] at g2
      refine xwp_go g1 [] 100 _ _ _ _ ?_
      exact And.intro (fun h => absurd h (by decide)) (fun _ => xri (G := G) g2 rfl rfl rfl)
    | false =>
      rw [hd] at g2
      refine xwp_go g1 [] 100 _ _ _ _ ?_
      exact And.intro (fun _ => xri (G := G) g2 rfl rfl rfl) (fun h => absurd rfl h)
  · refine xwp_go g1 [] 100 _ _ _ _ ?_
    refine And.intro (fun _ => ?_) (fun h => absurd (by decide) h)
    refine And.intro (fun h => absurd h (by decide)) (fun _ => ?_)
    refine And.intro (fun h => absurd h (by decide)) (fun _ => ?_)
    refine And.intro (fun h => absurd h (by decide)) (fun _ => ?_)
    refine And.intro (fun _ => ?_) (fun h => absurd rfl h)
    refine xcallR (G := G) g3 [] (t_isDigit d [] hx) ?_
    have en : nxtN 3 x = cond (dgB x) 4 24 := rfl
    rw [en] at g2
    rw [show decide (48 ≤ x ∧ x ≤ 57) = dgB x from rfl]
    cases hd : dgB x with
    | true =>
      rw [hd] at g2
      refine xwp_go g1 [] 100 _ _ _ _ ?_
      exact And.intro (fun h => absurd h (by decide)) (fun _ => xri (G := G) g2 rfl rfl rfl)
    | false =>
      rw [hd] at g2
      refine xwp_go g1 [] 100 _ _ _ _ ?_
      exact And.intro (fun _ => xri (G := G) g2 rfl rfl rfl) (fun h => absurd rfl h)
  · refine xwp_go g1 [] 100 _ _ _ _ ?_
    refine And.intro (fun _ => ?_) (fun h => absurd (by decide) h)
    refine And.intro (fun h => absurd h (by decide)) (fun _ => ?_)
    refine And.intro (fun h => absurd h (by decide)) (fun _ => ?_)
    refine And.intro (fun h => absurd h (by decide)) (fun _ => ?_)
    refine And.intro (fun h => absurd h (by decide)) (fun _ => ?_)
    refine And.intro (fun _ => ?_) (fun h => absurd rfl h)
    refine xcallR (G := G) g3 [] (t_isDigit d [] hx) ?_
    have en : nxtN 4 x = cond (dgB x) 5 (if x = 44 then 7 else 24) := rfl
    rw [en] at g2
    rw [show decide (48 ≤ x ∧ x ≤ 57) = dgB x from rfl]
    cases hd : dgB x with
    | true =>
      rw [hd] at g2
      refine xwp_go g1 [] 100 _ _ _ _ ?_
      exact And.intro (fun h => absurd h (by decide)) (fun _ => xri (G := G) g2 rfl rfl rfl)
    | false =>
      rw [hd] at g2
      refine xwp_go g1 [] 100 _ _ _ _ ?_
      refine And.intro (fun _ => ?_) (fun h => absurd rfl h)
      refine And.intro (fun h => ?_) (fun h => ?_) <;> rw [show (44 : Int32) = nI 44 from rfl, nI_eq (by omega) (by decide)] at h
      · exact xri (G := G) g2 rfl (by show (-1 : Int32) = stI (if x = 44 then 7 else 24); rw [if_neg h]; rfl) rfl
      · exact xri (G := G) g2 rfl (by show (7 : Int32) = stI (if x = 44 then 7 else 24); rw [if_pos h]; rfl) rfl
  · refine xwp_go g1 [] 100 _ _ _ _ ?_
    refine And.intro (fun _ => ?_) (fun h => absurd (by decide) h)
    refine And.intro (fun h => absurd h (by decide)) (fun _ => ?_)
    refine And.intro (fun h => absurd h (by decide)) (fun _ => ?_)
    refine And.intro (fun h => absurd h (by decide)) (fun _ => ?_)
    refine And.intro (fun h => absurd h (by decide)) (fun _ => ?_)
    refine And.intro (fun h => absurd h (by decide)) (fun _ => ?_)
    refine And.intro (fun _ => ?_) (fun h => absurd rfl h)
    have en : nxtN 5 x = if x = 44 then 7 else 24 := rfl
    rw [en] at g2
    refine And.intro (fun h => ?_) (fun h => ?_) <;> rw [show (44 : Int32) = nI 44 from rfl, nI_eq (by omega) (by decide)] at h
    · rw [if_neg h] at g2
      exact xri (G := G) g2 rfl rfl rfl
    · rw [if_pos h] at g2
      exact xri (G := G) g2 rfl rfl rfl
  · refine xwp_go g1 [] 100 _ _ _ _ ?_
    refine And.intro (fun _ => ?_) (fun h => absurd (by decide) h)
    refine And.intro (fun h => absurd h (by decide)) (fun _ => ?_)
    refine And.intro (fun h => absurd h (by decide)) (fun _ => ?_)
    refine And.intro (fun h => absurd h (by decide)) (fun _ => ?_)
    refine And.intro (fun h => absurd h (by decide)) (fun _ => ?_)
    refine And.intro (fun h => absurd h (by decide)) (fun _ => ?_)
    refine And.intro (fun h => absurd h (by decide)) (fun _ => ?_)
    refine And.intro (fun _ => ?_) (fun h => absurd rfl h)
    refine xcallR (G := G) g3 [] (t_isDigit d [] hx) ?_
    have en : nxtN 6 x = cond (dgB x) 23 24 := rfl
    rw [en] at g2
    rw [show decide (48 ≤ x ∧ x ≤ 57) = dgB x from rfl]
    cases hd : dgB x with
    | true =>
      rw [hd] at g2
      refine xwp_go g1 [] 100 _ _ _ _ ?_
      exact And.intro (fun h => absurd h (by decide)) (fun _ => xri (G := G) g2 rfl rfl rfl)
    | false =>
      rw [hd] at g2
      refine xwp_go g1 [] 100 _ _ _ _ ?_
      exact And.intro (fun _ => xri (G := G) g2 rfl rfl rfl) (fun h => absurd rfl h)
  · refine xwp_go g1 [] 100 _ _ _ _ ?_
    refine And.intro (fun h => absurd h (by decide)) (fun _ => ?_)
    refine And.intro (fun _ => ?_) (fun h => absurd (by decide) h)
    refine And.intro (fun h => absurd h (by decide)) (fun _ => ?_)
    refine And.intro (fun h => absurd h (by decide)) (fun _ => ?_)
    refine And.intro (fun h => absurd h (by decide)) (fun _ => ?_)
    refine And.intro (fun h => absurd h (by decide)) (fun _ => ?_)
    refine And.intro (fun h => absurd h (by decide)) (fun _ => ?_)
    refine And.intro (fun h => absurd h (by decide)) (fun _ => ?_)
    refine And.intro (fun h => absurd h (by decide)) (fun _ => ?_)
    refine And.intro (fun h => absurd h (by decide)) (fun _ => ?_)
    refine And.intro (fun h => absurd h (by decide)) (fun _ => ?_)
    refine And.intro (fun h => absurd h (by decide)) (fun _ => ?_)
    refine And.intro (fun h => absurd h (by decide)) (fun _ => ?_)
    refine And.intro (fun h => absurd h (by decide)) (fun _ => ?_)
    refine And.intro (fun h => absurd h (by decide)) (fun _ => ?_)
    refine And.intro (fun h => absurd h (by decide)) (fun _ => ?_)
    refine And.intro (fun h => absurd h (by decide)) (fun _ => ?_)
    refine And.intro (fun h => absurd h (by decide)) (fun _ => ?_)
    refine And.intro (fun h => absurd h (by decide)) (fun _ => ?_)
    refine And.intro (fun h => absurd h (by decide)) (fun _ => ?_)
    refine And.intro (fun h => absurd h (by decide)) (fun _ => ?_)
    refine And.intro (fun h => absurd h (by decide)) (fun _ => ?_)
    refine And.intro (fun h => absurd h (by decide)) (fun _ => ?_)
    refine And.intro (fun h => absurd h (by decide)) (fun _ => ?_)
    refine And.intro (fun h => absurd h (by decide)) (fun _ => ?_)
    refine And.intro (fun _ => ?_) (fun h => absurd rfl h)
    have en : nxtN 23 x = if x = 59 then 0 else 24 := rfl
    rw [en] at g2
    refine And.intro (fun h => ?_) (fun h => ?_) <;> rw [show (59 : Int32) = nI 59 from rfl, nI_eq (by omega) (by decide)] at h
    · rw [if_neg h] at g2
      exact xri (G := G) g2 rfl rfl rfl
    · rw [if_pos h] at g2
      exact xri (G := G) g2 rfl rfl rfl
