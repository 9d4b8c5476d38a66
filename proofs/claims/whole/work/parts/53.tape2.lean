/-! one statement of the letters: how far it goes, what it tells; the reference's -/
def prcW (T : Nat → Nat) (N j : Nat) : Nat := runN (fun k => isDg T N (j + k)) 2
def picW (T : Nat → Nat) (N j : Nat) : Nat := runN (fun k => isCl T N (j + k)) 16
def sldR (T : Nat → Nat) (N j : Nat) : Bool × Nat := if isDg T N j = false then (false, j) else if isDg T N (j + 1) = false then (false, j + 1) else if isDg T N (j + 2) = false then (false, j + 2) else if ¬ (j + 2 + prcW T N (j + 2) < N ∧ T (j + 2 + prcW T N (j + 2)) = 44) then (false, j + 2 + prcW T N (j + 2)) else (decide (picW T N (j + 3 + prcW T N (j + 2)) = 16), j + 3 + prcW T N (j + 2) + picW T N (j + 3 + prcW T N (j + 2)))
theorem dg_one {T : Nat → Nat} {N j : Nat} (h : isDg T N j = true) : runN (fun k => isDg T N (j + k)) 1 = 1 := by
  show (if (0 : Nat) = 0 ∧ isDg T N (j + 0) = true then 0 + 1 else 0) = 1
  rw [if_pos ⟨rfl, h⟩]
theorem val_one (T : Nat → Nat) (j : Nat) : valN T j 1 = T j - 48 := by
  show 10 * 0 + (T (j + 0) - 48) = _
  rw [Nat.mul_zero, Nat.zero_add, Nat.add_zero]
theorem dg_lt {T : Nat → Nat} {N j : Nat} (h : isDg T N j = true) : j < N := (of_decide_eq_true h).1
theorem m_readsSlide (d : Nat) {T : Nat → Nat} {N : Nat} {a : Nat → Nat → Int32} {s : Nat → Int32} (ht : tapeM T N a s) {j pl : Nat} (hj : j < 500) (h4 : s 4 = nI j) (hp : pl + 4 ≤ 128) : xCt xMs (d + 3) nX6_readsSlide [.ref 0, .int (nI pl)] (eM a s) (fun v w => v = some (.int (bI (sldR T N j).1)) ∧ ∃ f, (∀ k, k < pl → f k = a 10 k) ∧ ((sldR T N j).1 = true → f pl = nI (T j - 48) ∧ f (pl + 1) = nI (T (j + 1) - 48) ∧ f (pl + 2) = nI (valN T (j + 2) (prcW T N (j + 2))) ∧ f (pl + 3) = nI (pcvN T (j + 3 + prcW T N (j + 2)) 16)) ∧ w = eM (aU a 10 f) (sU s 4 (nI (sldR T N j).2))) := by
  have hw2 : prcW T N (j + 2) ≤ 2 := runN_le _ _
  refine xV (M := mX6_readsSlide) rfl rfl rfl rfl rfl pX6_readsSlide rfl (fun G g1 g2 g3 => ?_)
  refine xwp_go g1 [] 100 _ _ _ _ ?_
  refine xcMP (G := G) g3 (m_readsNumber (d) ht (i := j) (pl := pl) (mo := 1) (by omega) h4 (by omega) (by decide) (by decide)) (fun v w hp => by
    split at hp
    · exact ⟨_, _, hp.2⟩
    · exact ⟨_, _, hp.2⟩) (fun v a' s' hpp => ?_)
  cases h1 : isDg T N j with
  | false =>
    rw [if_neg (by rw [h1]; decide)] at hpp
    obtain ⟨rfl, e⟩ := hpp
    rw [e]
    have es : sldR T N j = (false, j) := by unfold sldR; rw [if_pos h1]
    rw [es] at g2
    refine xwp_go g1 [] 100 _ _ _ _ ?_
    refine And.intro (fun _ => ?_) (fun h => absurd rfl h)
    exact xrz' (G := G) g2 rfl (Or.inl rfl) ⟨rfl, a 10, fun _ _ => rfl, fun h => (by cases h), by rw [← h4]; rfl⟩
  | true =>
    rw [if_pos h1, dg_one h1, val_one] at hpp
    obtain ⟨rfl, e⟩ := hpp
    rw [e]
    refine xwp_go g1 [] 100 _ _ _ _ ?_
    refine And.intro (fun h => absurd h (by decide)) (fun _ => ?_)
    refine xcMP (G := G) g3 (agr2 (nI_1 pl) rfl (m_readsNumber (d) (a := aU a 10 (upd (a 10) pl (nI (T j - 48)))) (s := sU s 4 (nI (j + 1))) ht (i := j + 1) (pl := pl + 1) (mo := 1) (by omega) rfl (by omega) (by decide) (by decide))) (fun v w hp => by
      split at hp
      · exact ⟨_, _, hp.2⟩
      · exact ⟨_, _, hp.2⟩) (fun v a' s' hpp => ?_)
    cases h2 : isDg T N (j + 1) with
    | false =>
      rw [if_neg (by rw [h2]; decide)] at hpp
      obtain ⟨rfl, e⟩ := hpp
      rw [e]
      have es : sldR T N j = (false, j + 1) := by unfold sldR; rw [if_neg (by rw [h1]; decide), if_pos h2]
      rw [es] at g2
      refine xwp_go g1 [] 100 _ _ _ _ ?_
      refine And.intro (fun _ => ?_) (fun h => absurd rfl h)
      exact xrz' (G := G) g2 rfl (Or.inl rfl) ⟨rfl, upd (a 10) pl (nI (T j - 48)), fun k hk => by rw [upd_at, if_neg (by omega)], fun h => (by cases h), rfl⟩
    | true =>
      rw [if_pos h2, dg_one h2, val_one] at hpp
      obtain ⟨rfl, e⟩ := hpp
      rw [e]
      have e3 : nI pl + 2 = nI (pl + 2) := nI_add pl 2
      refine xwp_go g1 [] 100 _ _ _ _ ?_
      refine And.intro (fun h => absurd h (by decide)) (fun _ => ?_)
      refine xcMP (G := G) g3 (agr2 e3 rfl (m_readsNumber (d) (a := aU a 10 (upd (upd (a 10) pl (nI (T j - 48))) (pl + 1) (nI (T (j + 1) - 48)))) (s := sU s 4 (nI (j + 2))) ht (i := j + 2) (pl := pl + 2) (mo := 2) (by omega) rfl (by omega) (by decide) (by decide))) (fun v w hp => by
        split at hp
        · exact ⟨_, _, hp.2⟩
        · exact ⟨_, _, hp.2⟩) (fun v a' s' hpp => ?_)
      cases h3 : isDg T N (j + 2) with
      | false =>
        rw [if_neg (by rw [h3]; decide)] at hpp
        obtain ⟨rfl, e⟩ := hpp
        rw [e]
        have es : sldR T N j = (false, j + 2) := by unfold sldR; rw [if_neg (by rw [h1]; decide), if_neg (by rw [h2]; decide), if_pos h3]
        rw [es] at g2
        refine xwp_go g1 [] 100 _ _ _ _ ?_
        refine And.intro (fun _ => ?_) (fun h => absurd rfl h)
        exact xrz' (G := G) g2 rfl (Or.inl rfl) ⟨rfl, upd (upd (a 10) pl (nI (T j - 48))) (pl + 1) (nI (T (j + 1) - 48)), fun k hk => by rw [upd_at, if_neg (by omega), upd_at, if_neg (by omega)], fun h => (by cases h), rfl⟩
      | true =>
        rw [if_pos h3, show runN (fun k => isDg T N (j + 2 + k)) 2 = prcW T N (j + 2) from rfl] at hpp
        obtain ⟨rfl, e⟩ := hpp
        rw [e]
        have es : sldR T N j = if ¬ (j + 2 + prcW T N (j + 2) < N ∧ T (j + 2 + prcW T N (j + 2)) = 44) then (false, j + 2 + prcW T N (j + 2)) else (decide (picW T N (j + 3 + prcW T N (j + 2)) = 16), j + 3 + prcW T N (j + 2) + picW T N (j + 3 + prcW T N (j + 2))) := by
          unfold sldR
          rw [if_neg (by rw [h1]; decide), if_neg (by rw [h2]; decide), if_neg (by rw [h3]; decide)]
        generalize prcW T N (j + 2) = w at *
        have key : eM (aU (aU a 10 (upd (upd (a 10) pl (nI (T j - 48))) (pl + 1) (nI (T (j + 1) - 48)))) 10 (upd (aU a 10 (upd (upd (a 10) pl (nI (T j - 48))) (pl + 1) (nI (T (j + 1) - 48))) 10) (pl + 2) (nI (valN T (j + 2) w)))) (sU (sU s 4 (nI (j + 2))) 4 (nI (j + 2 + w))) = eM (aU a 10 (upd (upd (upd (a 10) pl (nI (T j - 48))) (pl + 1) (nI (T (j + 1) - 48))) (pl + 2) (nI (valN T (j + 2) w)))) (sU s 4 (nI (j + 2 + w))) := rfl
        rw [key]
        generalize hF : upd (upd (upd (a 10) pl (nI (T j - 48))) (pl + 1) (nI (T (j + 1) - 48))) (pl + 2) (nI (valN T (j + 2) w)) = F
        have f0 : F pl = nI (T j - 48) := by rw [← hF, upd_at, if_neg (by omega), upd_at, if_neg (by omega), upd_at, if_pos rfl]
        have f1 : F (pl + 1) = nI (T (j + 1) - 48) := by rw [← hF, upd_at, if_neg (by omega), upd_at, if_pos rfl]
        have f2 : F (pl + 2) = nI (valN T (j + 2) w) := by rw [← hF, upd_at, if_pos rfl]
        have fk : ∀ k, k < pl → F k = a 10 k := fun k hk => by rw [← hF, upd_at, if_neg (by omega), upd_at, if_neg (by omega), upd_at, if_neg (by omega)]
        refine xwp_go g1 [] 100 _ _ _ _ ?_
        refine And.intro (fun h => absurd h (by decide)) (fun _ => ?_)
        refine xcM (G := G) g3 (m_next (d + 1) (a := aU a 10 F) (s := sU s 4 (nI (j + 2 + w))) ht (i := j + 2 + w) (by omega) rfl) ?_
        refine xwp_go g1 [] 100 _ _ _ _ ?_
        refine And.intro (fun h => ?_) (fun h => ?_) <;> rw [show (44 : Int32) = nI 44 from rfl, nx_eq (fun h => (ht.2.2 _ h).2) (by decide)] at h
        · rw [if_neg (fun z => z h)] at es
          rw [es] at g2
          have e4 : nI pl + 3 = nI (pl + 3) := nI_add pl 3
          have e5 : nI (j + 2 + w) + 1 = nI (j + 3 + w) := by rw [nI_1]; exact congrArg nI (by omega)
          refine xcMP (G := G) g3 (agr1 e4 (m_readsPicture (d) (a := aU a 10 F) (s := sU s 4 (nI (j + 2 + w) + 1)) ht (i := j + 3 + w) (pl := pl + 3) (by omega) e5 (by omega))) (fun v w hp => ⟨_, _, hp.2.choose_spec.2⟩) (fun v a' s' hpp => ?_)
          rw [show runN (fun k => isCl T N (j + 3 + w + k)) 16 = picW T N (j + 3 + w) from rfl] at hpp
          obtain ⟨rfl, f, hf, e⟩ := hpp
          rw [e]
          generalize picW T N (j + 3 + w) = r at *
          refine xwp_go g1 [] 100 _ _ _ _ ?_
          refine xrz' (G := G) g2 rfl (bI_01 _) ⟨rfl, f, fun k hk => ?_, fun hok => ⟨?_, ?_, ?_, ?_⟩, rfl⟩
          · rw [hf, if_neg (by omega)]; exact fk k hk
          · rw [hf, if_neg (by omega)]; exact f0
          · rw [hf, if_neg (by omega)]; exact f1
          · rw [hf, if_neg (by omega)]; exact f2
          · have hok : r = 16 := of_decide_eq_true hok
            rw [hf, if_pos rfl, hok]
        · rw [if_pos h] at es
          rw [es] at g2
          exact xrz' (G := G) g2 rfl (Or.inl rfl) ⟨rfl, F, fk, fun h => (by cases h), rfl⟩
