/-! the class's Letters: fault, forget -/
def dfa (T : Nat → Nat) : Nat → Nat
  | 0 => 0
  | i + 1 => nxtN (dfa T i) (T i)
def fltI (T : Nat → Nat) (N : Nat) (v : Int32) : Prop := (∃ p, p < N ∧ (∀ j, j ≤ p → dfa T j ≤ 23) ∧ dfa T (p + 1) = 24 ∧ v = -1000 - nI p) ∨ ((∀ j, j ≤ N → dfa T j ≤ 23) ∧ v = if 0 < N ∧ dfa T N = 0 then 0 else -1000 - nI N)
theorem nxtN_le {st x : Nat} (h : st ≤ 23) : nxtN st x ≤ 24 := by
  unfold nxtN opnN
  split
  · split <;> omega
  · split
    · split
      · decide
      · split
        · decide
        · split <;> decide
    · cases dgB x <;> decide
    · cases dgB x <;> decide
    · cases dgB x <;> decide
    · cases dgB x
      · show (if x = 44 then 7 else 24) ≤ 24
        split <;> decide
      · exact (show 5 ≤ 24 by decide)
    · split <;> decide
    · cases dgB x <;> decide
    · split <;> decide
    · decide
theorem t_fault (d : Nat) {T : Nat → Nat} {N : Nat} {f : Nat → Int32} {t : Int32} (ht : tapeT T N f t) : xCt xMs (d + 3) nX2_fault [.ref 0] (eT f t) (fun v w => ∃ r, v = some (.int r) ∧ fltI T N r ∧ w = eT f t) := by
  obtain ⟨h1, h80, hT⟩ := ht
  refine xV (M := mX2_fault) rfl rfl rfl rfl rfl pX2_fault rfl (fun G g1 g2 g3 => ?_)
  refine xwp_go g1 [4] 100 _ _ _ _ ?_
  refine up (k := N) (P := fun i => ∀ x y, x = nI i → y = nI (dfa T i) → (∀ j, j ≤ i → dfa T j ≤ 23) → G 4 [some (.ref 0), some (.int y), some (.int x)] [] (eT f t)) ?_ ?_ 0 (Nat.zero_le _) _ _ rfl rfl (fun j hj => by rw [show j = 0 by omega]; exact Nat.zero_le _)
  · intro x y hx hy hb
    subst hx; subst hy
    have hbN := hb N (Nat.le_refl _)
    refine xwp_go g1 [4] 100 _ _ _ _ ?_
    refine And.intro (fun _ => ?_) (fun h => ?_)
    · refine And.intro (fun h => ?_) (fun h => ?_) <;> rw [h1, show (0 : Int32) = nI 0 from rfl, nI_leI (by omega) (by decide)] at h
      · exact xri' (G := G) g2 rfl ⟨_, rfl, Or.inr ⟨hb, by rw [if_neg (by omega), h1]⟩, rfl⟩
      · refine And.intro (fun h2 => ?_) (fun h2 => ?_) <;> rw [show (0 : Int32) = nI 0 from rfl, nI_eq (by omega) (by decide)] at h2
        · exact xri' (G := G) g2 rfl ⟨_, rfl, Or.inr ⟨hb, by rw [if_neg (fun z => h2 z.2), h1]⟩, rfl⟩
        · exact xri' (G := G) g2 rfl ⟨_, rfl, Or.inr ⟨hb, by rw [if_pos ⟨by omega, h2⟩]⟩, rfl⟩
    · rw [h1] at h
      exact absurd (nI_le (Nat.le_refl _) (by omega)) h
  · intro i hi ih x y hx hy hb
    subst hx; subst hy
    obtain ⟨t1, t2⟩ := hT i hi
    have hbi := hb i (Nat.le_refl _)
    have hle := nxtN_le (x := T i) hbi
    refine xwp_go g1 [4] 100 _ _ _ _ ?_
    refine And.intro (fun h => ?_) (fun _ => ?_)
    · rw [h1] at h
      exact absurd h (nI_ge hi (by omega))
    refine And.intro (vp_in_nI (by omega) (by decide)) ?_
    have e : f (nI i).toNatClampNeg = nI (T i) := by rw [nI_clamp (by omega), t1]
    refine xcallR (G := G) g3 [] (ag2 rfl e (t_stateBehind d [] hbi t2)) ?_
    by_cases h24 : nxtN (dfa T i) (T i) = 24
    · rw [show stI (nxtN (dfa T i) (T i)) = -1 from by unfold stI; rw [if_pos h24]]
      refine xwp_go g1 [4] 100 _ _ _ _ ?_
      refine And.intro (fun h => absurd rfl h) (fun _ => ?_)
      exact xri' (G := G) g2 rfl ⟨_, rfl, Or.inl ⟨i, hi, hb, h24, rfl⟩, rfl⟩
    · rw [show stI (nxtN (dfa T i) (T i)) = nI (nxtN (dfa T i) (T i)) from by unfold stI; rw [if_neg h24]]
      refine xwp_go g1 [4] 100 _ _ _ _ ?_
      refine And.intro (fun _ => ?_) (fun h => ?_)
      · refine ih _ _ (nI_1 i) rfl (fun j hj => ?_)
        by_cases ej : j = i + 1
        · rw [ej]; show nxtN (dfa T i) (T i) ≤ 23; omega
        · exact hb j (by omega)
      · have := nI_pos (n := nxtN (dfa T i) (T i)) (by omega)
        rw [h] at this
        exact absurd (by decide) this
theorem t_forget (d : Nat) (f : Nat → Int32) (t : Int32) : xCt xMs (d + 1) nX2_forget [.ref 0] (eT f t) (xRetV (eT f 0)) := by
  refine xV (M := mX2_forget) rfl rfl rfl rfl rfl pX2_forget rfl (fun G g1 g2 g3 => ?_)
  refine xwp_go g1 [] 100 _ _ _ _ ?_
  exact xrv (G := G) g2 rfl rfl
