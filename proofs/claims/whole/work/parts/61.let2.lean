/-! the class's Letters: number, the state behind a sign -/
theorem t_number (d : Nat) {T : Nat → Nat} {N : Nat} {f : Nat → Int32} {t : Int32} (ht : tapeT T N f t) {i w : Nat} (hd : ∀ k, k < w → isDg T N (i + k) = true) (hw : w ≤ 2) (hi : i + w ≤ 200) : xCt xMs (d + 3) nX2_number [.ref 0, .int (nI i), .int (nI (i + w))] (eT f t) (xRet (nI (valN T i w)) (eT f t)) := by
  refine xV (M := mX2_number) rfl rfl rfl rfl rfl pX2_number rfl (fun G g1 g2 g3 => ?_)
  refine xwp_go g1 [5] 100 _ _ _ _ ?_
  refine up (k := w) (P := fun k => ∀ x y, x = nI (i + k) → y = nI (valN T i k) → G 5 [some (.ref 0), some (.int (nI i)), some (.int (nI (i + w))), some (.int y), some (.int x)] [] (eT f t)) ?_ ?_ 0 (Nat.zero_le _) _ _ rfl rfl
  · intro x y hx hy
    subst hx; subst hy
    refine xwp_go g1 [5] 100 _ _ _ _ ?_
    exact And.intro (fun _ => xri (G := G) g2 rfl rfl rfl) (fun h => absurd (nI_le (Nat.le_refl _) (by omega)) h)
  · intro k hk ih x y hx hy
    subst hx; subst hy
    refine xwp_go g1 [5] 100 _ _ _ _ ?_
    refine And.intro (fun h => absurd h (nI_ge (by omega) (by omega))) (fun _ => ?_)
    refine xcallR (G := G) g3 [0, 1] (t_digit d ht (hd k hk)) ?_
    refine xwp_go g1 [5] 100 _ _ _ _ ?_
    refine ih _ _ (nI_1 (i + k)) ?_
    rw [show (10 : Int32) = nI 10 from rfl, pk_mul, nI_add]
    refine congrArg nI ?_
    show valN T i k * 10 + (T (i + k) - 48) = 10 * valN T i k + (T (i + k) - 48)
    omega
/-- the states: 24 is bad -/
def opnN (x : Nat) : Nat := if x = 104 then 6 else if x = 115 then 1 else if x = 119 then 7 else 24
def stI (n : Nat) : Int32 := if n = 24 then -1 else nI n
theorem t_stateOpened (d : Nat) (ws : xH) {x : Nat} (hx : x ≤ 255) : xCt xMs (d + 1) nX2_stateOpened [.int (nI x)] ws (xRet (stI (opnN x)) ws) := by
  refine xS (M := mX2_stateOpened) rfl rfl pX2_stateOpened rfl (fun G g1 g2 g3 => ?_)
  unfold opnN at g2
  refine xwp_go g1 [] 100 _ _ _ _ ?_
  refine And.intro (fun h => ?_) (fun h => ?_) <;> rw [show (104 : Int32) = nI 104 from rfl, nI_eq (by omega) (by decide)] at h
  · rw [if_pos h] at g2
    exact xri (G := G) g2 rfl rfl rfl
  rw [if_neg h] at g2
  refine And.intro (fun h => ?_) (fun h => ?_) <;> rw [show (115 : Int32) = nI 115 from rfl, nI_eq (by omega) (by decide)] at h
  · rw [if_pos h] at g2
    exact xri (G := G) g2 rfl rfl rfl
  rw [if_neg h] at g2
  refine And.intro (fun h => ?_) (fun h => ?_) <;> rw [show (119 : Int32) = nI 119 from rfl, nI_eq (by omega) (by decide)] at h
  · rw [if_pos h] at g2
    exact xri (G := G) g2 rfl rfl rfl
  rw [if_neg h] at g2
  exact xri (G := G) g2 rfl rfl rfl
