/-! the class's Letters: statementComes -/
/-- letters and a lantern -/
def eTL (f : Nat → Int32) (t : Int32) (a : Nat → Nat → Int32) (s : Nat → Int32) : xH := [.inr (1, [.ref 1, .int t]), .inl (80, f),
  .inr (0, [.ref 3, .ref 4, .ref 5, .ref 6, .ref 7, .ref 8, .int (s 0), .int (s 1), .int (s 2)]), .inl (8, a 0), .inl (8, a 1), .inl (8, a 2), .inl (8, a 3), .inl (8, a 4), .inl (6, a 5)]
abbrev pTt : List Nat := [0, 1]
abbrev pTl : List Nat := [2, 3, 4, 5, 6, 7, 8]
theorem xputTl (f : Nat → Int32) (t : Int32) (a a' : Nat → Nat → Int32) (s s' : Nat → Int32) : xput pTl pTl (eL a' s') (eTL f t a s) = eTL f t a' s' := rfl
theorem t_statementComes (d : Nat) {T : Nat → Nat} {N : Nat} {f : Nat → Int32} {t : Int32} (ht : tapeT T N f t) {q : LQ} {a : Nat → Nat → Int32} {s : Nat → Int32} (hr : relS q a s) {i : Nat} (hok : (stmR T N i).1 = true) : xCt xMs (d + 4) nX2_statementComes [.ref 0, .ref 2, .int (nI i), .int (nI ((stmR T N i).2 - 1))] (eTL f t a s) (fun v w => v = some (.int (bI (appQ T N i q).isSome)) ∧ ∃ a' s', (∀ q', appQ T N i q = some q' → relS q' a' s') ∧ w = eTL f t a' s') := by
  have h80 := ht.2.1
  obtain ⟨h3, hle, -⟩ := stm_ok hok
  obtain ⟨l1, -⟩ := stm_len hok
  have hTi := (ht.2.2 i (by omega)).2
  refine xV (M := mX2_statementComes) rfl rfl rfl rfl rfl pX2_statementComes rfl (fun G g1 g2 g3 => ?_)
  refine xwp_go g1 [] 100 _ _ _ _ ?_
  refine xcallR (G := G) g3 pTt (t_signAt (d + 2) ht (show i < N by omega)) ?_
  have fin : ∀ {ok : Prop} {q2 : LQ} {pc n : Nat} {an : List (Int32 × Nat)} {j : Int64} {loc : xL} {v : Option Value} {w : xH}, xlk mX2_statementComes.2.2.2.2.1 pc = some (.ireturn, n, an, j) → (ok → appQ T N i q = some q2) → (¬ ok → appQ T N i q = none) → xAdd ok q2 (eL a s) v w → G pc loc (v.toList ++ []) (xput pTl pTl w (eTL f t a s)) := by
    intro ok q2 pc n an j loc v w hi h1 h2 hp
    rcases hp with ⟨c, rfl, a', s', hq, rfl⟩ | ⟨c, rfl, rfl⟩
    · rw [xputTl]
      refine xrz' (G := G) g2 hi (Or.inr rfl) ⟨by rw [h1 c]; rfl, a', s', fun q' e => ?_, rfl⟩
      rw [h1 c] at e; cases e; exact hq
    · rw [xputTl]
      refine xrz' (G := G) g2 hi (Or.inl rfl) ⟨by rw [h2 c]; rfl, a, s, fun q' e => ?_, rfl⟩
      rw [h2 c] at e; cases e
  refine xwp_go g1 [] 100 _ _ _ _ ?_
  rcases h3 with ⟨e, g, e2⟩ | ⟨e, g, e2⟩ | ⟨e, g, e2⟩
  · rw [e]
    obtain ⟨a1, a2, a3, a4, a5, a6⟩ := sld_ok g
    have w2 := prcW_le T N (i + 3)
    refine And.intro (fun _ => ?_) (fun h => absurd rfl h)
    have e3 : nI i + 3 = nI (i + 3) := nI_add i 3
    have e4 : nI ((stmR T N i).2 - 1) - 16 - 1 = nI (i + 3 + prcW T N (i + 3)) := by
      rw [show (16 : Int32) = nI 16 from rfl, pk_sub (by omega), show (1 : Int32) = nI 1 from rfl, pk_sub (by omega)]
      exact congrArg nI (by omega)
    refine xcallR (G := G) g3 pTt (agr2 e3 e4 (t_number d ht (i := i + 3) (w := prcW T N (i + 3)) (fun k hk => runN_in (fun k => isDg T N (i + 3 + k)) 2 k hk) w2 (by omega))) ?_
    refine xwp_go g1 [] 100 _ _ _ _ ?_
    refine xcallR (G := G) g3 pTt (agr1 (nI_1 i) (t_digit (d + 1) ht a1)) ?_
    refine xwp_go g1 [] 100 _ _ _ _ ?_
    refine xcallR (G := G) g3 pTt (agr1 (nI_add i 2) (t_digit (d + 1) ht a2)) ?_
    refine xwp_go g1 [] 100 _ _ _ _ ?_
    refine xcallR (G := G) g3 pTt (t_pictureBefore (d + 1) ht (e := (stmR T N i).2 - 1) (by omega) (by omega)) ?_
    refine xwp_go g1 [] 100 _ _ _ _ ?_
    refine xcall (G := G) g3 pTl (c_addsSlide (d + 2) hr (dg_le a1) (dg_le a2) (val_le a3) (pcvN_lt T _ 16)) (fun v wc' hp _ => ?_)
    have ed : datN T N i 0 = T (i + 1) - 48 := by
      show (if T i = 119 then _ else T (i + 1) - 48) = _
      rw [if_neg (by omega)]
    have ep : datN T N i 3 = pcvN T ((stmR T N i).2 - 1 - 16) 16 := by
      show pcvN T (i + 4 + prcW T N (i + 3)) 16 = _
      rw [show (stmR T N i).2 - 1 - 16 = i + 4 + prcW T N (i + 3) by omega]
    refine fin rfl (fun c => ?_) (fun c => ?_) hp <;> unfold appQ <;> rw [if_neg (by omega), if_neg (by omega), ed, ep]
    · rw [if_pos c]; rfl
    · rw [if_neg c]
  · rw [e]
    refine And.intro (fun h => absurd h (by decide)) (fun _ => ?_)
    refine And.intro (fun _ => ?_) (fun h => absurd rfl h)
    refine xcallR (G := G) g3 pTt (t_pictureBefore (d + 1) ht (e := (stmR T N i).2 - 1) (by omega) (by omega)) ?_
    refine xwp_go g1 [] 100 _ _ _ _ ?_
    refine xcall (G := G) g3 pTl (c_addsWanted (d + 2) hr (pcvN_lt T _ 16)) (fun v wc' hp _ => ?_)
    have ed : datN T N i 0 = pcvN T ((stmR T N i).2 - 1 - 16) 16 := by
      show (if T i = 119 then pcvN T (i + 1) 16 else _) = _
      rw [if_pos e, show (stmR T N i).2 - 1 - 16 = i + 1 by omega]
    refine fin rfl (fun c => ?_) (fun c => ?_) hp <;> unfold appQ <;> rw [if_neg (by omega), if_pos e]
    · rw [if_pos c, ed]
    · rw [if_neg c]
  · rw [e]
    refine And.intro (fun h => absurd h (by decide)) (fun _ => ?_)
    refine And.intro (fun h => absurd h (by decide)) (fun _ => ?_)
    refine xcallR (G := G) g3 pTt (agr1 (nI_1 i) (t_digit (d + 1) ht g)) ?_
    refine xwp_go g1 [] 100 _ _ _ _ ?_
    refine xcall (G := G) g3 pTl (c_heats (d + 2) hr (dg_le g)) (fun v wc' hp _ => ?_)
    have ed : datN T N i 0 = T (i + 1) - 48 := by
      show (if T i = 119 then _ else T (i + 1) - 48) = _
      rw [if_neg (by omega)]
    refine fin rfl (fun c => ?_) (fun c => ?_) hp <;> unfold appQ <;> rw [if_pos e, ed]
    · rw [if_pos c]
    · rw [if_neg c]
