/-! the search slide by slide is a fold over the leaves -/
def stF (q : LQ) (p : Nat) (F : FF) (e : Nat × Nat) : FF := if laidQ q e.1 e.2 = p then (if F.1 < pop e.1 then F else noteF F e.1 e.2) else F
def stC (q : LQ) (p : Nat) (m : Nat) (e : Nat × Nat) : Nat := if laidQ q e.1 e.2 = p then (if m ≤ costL q e.1 (q 6 0) then m else costL q e.1 (q 6 0)) else m
def stN (q : LQ) (p : Nat) (m : Nat) (e : Nat × Nat) : Nat := if m ≤ pop (laidQ q e.1 e.2 ^^^ p) then m else pop (laidQ q e.1 e.2 ^^^ p)
theorem lvs_laid {q : LQ} {j i : Nat} {x e : Nat × Nat} (he : e ∈ lvs j i x) : laidL q e.1 e.2 i = laidL q x.1 x.2 i := laid_same i (lvs_same j i x e he)
theorem lvs_cost {q : LQ} {j i : Nat} {x e : Nat × Nat} (he : e ∈ lvs j i x) : costL q e.1 i = costL q x.1 i := cost_same i (fun k hk => (lvs_same j i x e he k hk).1)
theorem laid_up {q : LQ} {s o i : Nat} (hi : i ≤ q 6 0) : sb (laidL q s o i) (laidQ q s o) := by
  have := laid_mono q s o i (q 6 0 - i)
  rw [show i + (q 6 0 - i) = q 6 0 by omega] at this
  exact this
theorem cost_up {q : LQ} {s i : Nat} (hi : i ≤ q 6 0) : costL q s i ≤ costL q s (q 6 0) := by
  have := cost_mono q s i (q 6 0 - i)
  rw [show i + (q 6 0 - i) = q 6 0 by omega] at this
  exact this
theorem lvs_pop {j i : Nat} {x e : Nat × Nat} (hx : x.1 < 2 ^ i) (he : e ∈ lvs j i x) : pop x.1 ≤ pop e.1 := sb_pop (fun k hk => by
  rcases Nat.lt_or_ge k i with h | h
  · rw [(lvs_same j i x e he k h).1]; exact hk
  · rw [Nat.testBit_lt_two_pow (Nat.lt_of_lt_of_le hx (Nat.pow_le_pow_right (by decide) h))] at hk
    exact absurd hk (by decide))
/-- the three ways on -/
theorem laid_0 {q : LQ} {s o i : Nat} (hs : s < 2 ^ i) : laidL q s o (i + 1) = laidL q s o i := by rw [laid_s, bit_no hs]; rfl
theorem laid_1 {q : LQ} {s o i : Nat} (ho : o < 2 ^ i) : laidL q (s ||| 2 ^ i) o (i + 1) = laidL q s o i ||| onQ q i := by
  rw [laid_s, bit_at, if_pos rfl, laid_same i (fun k hk => ⟨bit_same hk, rfl⟩)]
  unfold faceQ
  rw [bit_no ho]; rfl
theorem laid_2 {q : LQ} {s o i : Nat} : laidL q (s ||| 2 ^ i) (o ||| 2 ^ i) (i + 1) = laidL q s o i ||| mirN (onQ q i) := by
  rw [laid_s, bit_at, if_pos rfl, laid_same i (fun k hk => ⟨bit_same hk, bit_same hk⟩)]
  unfold faceQ
  rw [bit_at]; rfl
theorem cost_0 {q : LQ} {s i : Nat} (hs : s < 2 ^ i) : costL q s (i + 1) = costL q s i := by rw [cost_s, bit_no hs]; rfl
theorem cost_1 {q : LQ} {s i : Nat} : costL q (s ||| 2 ^ i) (i + 1) = costL q s i + q 3 i := by rw [cost_s, bit_at, cost_same i (fun k hk => bit_same hk)]; rfl
theorem str_none {q : LQ} {p i : Nat} : strO q none p i = layO (onQ q i) p := by unfold strO; rw [if_neg (fun z => by cases z)]
theorem tur_none {q : LQ} {p i : Nat} : turO q none p i = layO (mirN (onQ q i)) p := by unfold turO; rw [if_neg (fun z => by cases z)]
/-- no leaf is shown where it is out of reach -/
theorem out_no {q : LQ} {p j i set ov : Nat} (hij : i + j = q 6 0) (ho : outB (ldD q none p p) i (laidL q set ov i) = true) {e : Nat × Nat} (he : e ∈ lvs j i (set, ov)) : ¬ laidQ q e.1 e.2 = p := by
  intro h
  have h1 := in_reach (q := q) (x := none) (p := p) (al := p) (s := e.1) (o := e.2) (fun k _ _ z => by cases z) (by show sb (laidQ q e.1 e.2) p; rw [h]; exact sb_refl p) j i hij
  have h2 := out_iff.mp ho
  rw [← lvs_laid he] at h2
  exact h2 (by show sb p _; rw [show p = laidL q e.1 e.2 (q 6 0) from h.symm]; rw [show laidL q e.1 e.2 (q 6 0) = p from h] at h1 ⊢; exact h1)
/-- no leaf is shown behind a side that harms -/
theorem harm_no {q : LQ} {p j i : Nat} {x e : Nat × Nat} (hij : i + 1 + j = q 6 0) (he : e ∈ lvs j (i + 1) x) {f : Nat} (hf : sb f (laidL q x.1 x.2 (i + 1))) (hn : ¬ sb f p) : ¬ laidQ q e.1 e.2 = p := by
  intro h
  refine hn (sb_trans hf ?_)
  rw [← lvs_laid he, ← h]
  exact laid_up (by omega)
theorem skF_fold {q : LQ} {p : Nat} : ∀ j i set ov F, i + j = q 6 0 → set < 2 ^ i → ov < 2 ^ i → sb (laidL q set ov i) p → skF (ldD q none p p) j i (laidL q set ov i) set ov F = (lvs j i (set, ov)).foldl (stF q p) F := by
  intro j
  induction j with
  | zero =>
    intro i set ov F hij hs ho hp
    obtain rfl : i = q 6 0 := by omega
    show _ = stF q p F (set, ov)
    unfold skF stF
    by_cases hO : outB (ldD q none p p) (q 6 0) (laidL q set ov (q 6 0)) = true
    · rw [if_pos hO, if_neg (out_no (q := q) (j := 0) (i := q 6 0) (Nat.add_zero _) hO (e := (set, ov)) (List.mem_singleton.mpr rfl))]
    · rw [if_neg hO]
      have h1 : sb p (laidL q set ov (q 6 0)) := Classical.byContradiction (fun hc => hO (out_iff.mpr (by rw [reach_end, Nat.or_zero]; exact hc)))
      rw [if_pos (show laidQ q set ov = p from sb_eq hp h1)]
  | succ j ih =>
    intro i set ov F hij hs ho hp
    unfold skF
    by_cases hO : outB (ldD q none p p) i (laidL q set ov i) = true
    · rw [if_pos hO]
      exact (fold_id _ (fun e he => by unfold stF; rw [if_neg (out_no hij hO he)])).symm
    rw [if_neg hO]
    by_cases hk : F.1 < pop set
    · rw [if_pos hk]
      refine (fold_id _ (fun e he => ?_)).symm
      have := lvs_pop (x := (set, ov)) hs he
      unfold stF
      rw [if_pos (show F.1 < pop e.1 from Nat.lt_of_lt_of_le hk this)]
      split <;> rfl
    rw [if_neg hk]
    show _ = (lvs j (i + 1) (set, ov) ++ (lvs j (i + 1) (set ||| 2 ^ i, ov) ++ lvs j (i + 1) (set ||| 2 ^ i, ov ||| 2 ^ i))).foldl (stF q p) F
    rw [List.foldl_append, List.foldl_append]
    have e1 : skF (ldD q none p p) j (i + 1) (laidL q set ov i) set ov F = (lvs j (i + 1) (set, ov)).foldl (stF q p) F := by
      have := ih (i + 1) set ov F (by omega) (up1 hs) (up1 ho) (by rw [laid_0 hs]; exact hp)
      rw [laid_0 hs] at this
      exact this
    rw [e1]
    generalize (lvs j (i + 1) (set, ov)).foldl (stF q p) F = F1
    have e2 : onO ((ldD q none p p).1 i) F1 (fun x => skF (ldD q none p p) j (i + 1) (laidL q set ov i ||| x) (set ||| 2 ^ i) ov F1) = (lvs j (i + 1) (set ||| 2 ^ i, ov)).foldl (stF q p) F1 := by
      rw [show (ldD q none p p).1 i = layO (onQ q i) p from str_none]
      by_cases hh : sb (onQ q i) p
      · rw [lay_y hh]
        have := ih (i + 1) (set ||| 2 ^ i) ov F1 (by omega) (bitS_lt hs) (up1 ho) (by rw [laid_1 ho]; exact sb_or hp hh)
        rw [laid_1 ho] at this
        exact this
      · rw [lay_n hh]
        exact (fold_id _ (fun e he => by unfold stF; rw [if_neg (harm_no (by omega) he (by rw [laid_1 ho]; exact sb_r _ _) hh)])).symm
    rw [e2]
    generalize (lvs j (i + 1) (set ||| 2 ^ i, ov)).foldl (stF q p) F1 = F2
    rw [show (ldD q none p p).2.1 i = layO (mirN (onQ q i)) p from tur_none]
    by_cases hh : sb (mirN (onQ q i)) p
    · rw [lay_y hh]
      have := ih (i + 1) (set ||| 2 ^ i) (ov ||| 2 ^ i) F2 (by omega) (bitS_lt hs) (bitS_lt ho) (by rw [laid_2]; exact sb_or hp hh)
      rw [laid_2] at this
      exact this
    · rw [lay_n hh]
      exact (fold_id _ (fun e he => by unfold stF; rw [if_neg (harm_no (by omega) he (by rw [laid_2]; exact sb_r _ _) hh)])).symm
theorem skC_fold {q : LQ} {p : Nat} : ∀ j i set ov m, i + j = q 6 0 → set < 2 ^ i → ov < 2 ^ i → sb (laidL q set ov i) p → skC (ldD q none p p) j i (laidL q set ov i) (costL q set i) m = (lvs j i (set, ov)).foldl (stC q p) m := by
  intro j
  induction j with
  | zero =>
    intro i set ov m hij hs ho hp
    obtain rfl : i = q 6 0 := by omega
    show _ = stC q p m (set, ov)
    unfold skC stC
    by_cases hO : outB (ldD q none p p) (q 6 0) (laidL q set ov (q 6 0)) = true
    · rw [if_pos hO, if_neg (out_no (q := q) (j := 0) (i := q 6 0) (Nat.add_zero _) hO (e := (set, ov)) (List.mem_singleton.mpr rfl))]
      split <;> rfl
    · rw [if_neg hO]
      have h1 : sb p (laidL q set ov (q 6 0)) := Classical.byContradiction (fun hc => hO (out_iff.mpr (by rw [reach_end, Nat.or_zero]; exact hc)))
      rw [if_pos (show laidQ q set ov = p from sb_eq hp h1)]
  | succ j ih =>
    intro i set ov m hij hs ho hp
    unfold skC
    by_cases hk : m ≤ costL q set i
    · rw [if_pos hk]
      refine (fold_id _ (fun e he => ?_)).symm
      have h1 := lvs_cost (q := q) he
      have h2 := cost_up (q := q) (s := e.1) (i := i) (by omega)
      unfold stC
      have h3 : costL q e.1 i = costL q set i := h1
      rw [if_pos (show m ≤ costL q e.1 (q 6 0) by omega)]
      split <;> rfl
    rw [if_neg hk]
    by_cases hO : outB (ldD q none p p) i (laidL q set ov i) = true
    · rw [if_pos hO]
      exact (fold_id _ (fun e he => by unfold stC; rw [if_neg (out_no hij hO he)])).symm
    rw [if_neg hO]
    show _ = (lvs j (i + 1) (set, ov) ++ (lvs j (i + 1) (set ||| 2 ^ i, ov) ++ lvs j (i + 1) (set ||| 2 ^ i, ov ||| 2 ^ i))).foldl (stC q p) m
    rw [List.foldl_append, List.foldl_append]
    have e1 : skC (ldD q none p p) j (i + 1) (laidL q set ov i) (costL q set i) m = (lvs j (i + 1) (set, ov)).foldl (stC q p) m := by
      have := ih (i + 1) set ov m (by omega) (up1 hs) (up1 ho) (by rw [laid_0 hs]; exact hp)
      rw [laid_0 hs, cost_0 hs] at this
      exact this
    rw [e1]
    generalize (lvs j (i + 1) (set, ov)).foldl (stC q p) m = F1
    have e2 : onO ((ldD q none p p).1 i) F1 (fun x => skC (ldD q none p p) j (i + 1) (laidL q set ov i ||| x) (costL q set i + (ldD q none p p).2.2.1 i) F1) = (lvs j (i + 1) (set ||| 2 ^ i, ov)).foldl (stC q p) F1 := by
      rw [show (ldD q none p p).1 i = layO (onQ q i) p from str_none]
      by_cases hh : sb (onQ q i) p
      · rw [lay_y hh]
        have := ih (i + 1) (set ||| 2 ^ i) ov F1 (by omega) (bitS_lt hs) (up1 ho) (by rw [laid_1 ho]; exact sb_or hp hh)
        rw [laid_1 ho, cost_1] at this
        exact this
      · rw [lay_n hh]
        exact (fold_id _ (fun e he => by unfold stC; rw [if_neg (harm_no (by omega) he (by rw [laid_1 ho]; exact sb_r _ _) hh)])).symm
    rw [e2]
    generalize (lvs j (i + 1) (set ||| 2 ^ i, ov)).foldl (stC q p) F1 = F2
    rw [show (ldD q none p p).2.1 i = layO (mirN (onQ q i)) p from tur_none]
    by_cases hh : sb (mirN (onQ q i)) p
    · rw [lay_y hh]
      have := ih (i + 1) (set ||| 2 ^ i) (ov ||| 2 ^ i) F2 (by omega) (bitS_lt hs) (bitS_lt ho) (by rw [laid_2]; exact sb_or hp hh)
      rw [laid_2, cost_1] at this
      exact this
    · rw [lay_n hh]
      exact (fold_id _ (fun e he => by unfold stC; rw [if_neg (harm_no (by omega) he (by rw [laid_2]; exact sb_r _ _) hh)])).symm
/-- what is too dark or too clear already stays so -/
theorem at_le {q : LQ} (hq : okS q) {p j i set ov : Nat} (hij : i + j = q 6 0) {e : Nat × Nat} (he : e ∈ lvs j i (set, ov)) : atN (ldD q none p 65535) i (laidL q set ov i) ≤ pop (laidQ q e.1 e.2 ^^^ p) := by
  have h1 := in_reach (q := q) (x := none) (p := p) (al := 65535) (s := e.1) (o := e.2) (fun k _ _ z => by cases z) (sb_lt (laidQ_lt hq e.1 e.2)) j i hij
  have h2 : sb (laidL q set ov i) (laidQ q e.1 e.2) := by
    have := lvs_laid (q := q) he
    rw [← show laidL q e.1 e.2 i = laidL q set ov i from this]
    exact laid_up (by omega)
  rw [show laidL q e.1 e.2 i = laidL q set ov i from lvs_laid he] at h1
  refine sb_pop (fun k hk => ?_)
  have hk : (((laidL q set ov i) ^^^ ((laidL q set ov i) &&& p)) ||| (p ^^^ (p &&& (laidL q set ov i ||| (ldD q none p 65535).2.2.2.1 i)))).testBit k = true := hk
  rw [Nat.testBit_or, Nat.testBit_xor, Nat.testBit_and, Nat.testBit_xor, Nat.testBit_and, Nat.testBit_or] at hk
  rw [Nat.testBit_xor]
  have g1 := h1 k
  have g2 := h2 k
  rw [Nat.testBit_or] at g1
  rw [show laidL q e.1 e.2 (q 6 0) = laidQ q e.1 e.2 from rfl] at g1
  generalize (laidQ q e.1 e.2).testBit k = b1 at g1 g2 ⊢
  generalize (laidL q set ov i).testBit k = b2 at g1 g2 hk
  generalize ((ldD q none p 65535).2.2.2.1 i).testBit k = b3 at g1 hk
  generalize p.testBit k = b4 at hk ⊢
  revert hk g1 g2
  cases b1 <;> cases b2 <;> cases b3 <;> cases b4 <;> decide
theorem skN_fold {q : LQ} (hq : okS q) {p : Nat} : ∀ j i set ov m, i + j = q 6 0 → set < 2 ^ i → ov < 2 ^ i → skN (ldD q none p 65535) j i (laidL q set ov i) m = (lvs j i (set, ov)).foldl (stN q p) m := by
  intro j
  induction j with
  | zero =>
    intro i set ov m hij hs ho
    obtain rfl : i = q 6 0 := by omega
    show _ = stN q p m (set, ov)
    unfold skN stN
    have : atN (ldD q none p 65535) (q 6 0) (laidL q set ov (q 6 0)) = pop (laidQ q set ov ^^^ p) := by
      unfold atN
      rw [reach_end, Nat.or_zero]
      refine congrArg pop (Nat.eq_of_testBit_eq (fun k => ?_))
      show (((laidQ q set ov) ^^^ ((laidQ q set ov) &&& p)) ||| (p ^^^ (p &&& laidQ q set ov))).testBit k = _
      rw [Nat.testBit_or, Nat.testBit_xor, Nat.testBit_and, Nat.testBit_xor, Nat.testBit_and, Nat.testBit_xor]
      cases (laidQ q set ov).testBit k <;> cases p.testBit k <;> rfl
    rw [this]
  | succ j ih =>
    intro i set ov m hij hs ho
    unfold skN
    by_cases hk : m ≤ atN (ldD q none p 65535) i (laidL q set ov i)
    · rw [if_pos hk]
      refine (fold_id _ (fun e he => ?_)).symm
      unfold stN
      rw [if_pos (Nat.le_trans hk (at_le hq hij he))]
    rw [if_neg hk]
    show _ = (lvs j (i + 1) (set, ov) ++ (lvs j (i + 1) (set ||| 2 ^ i, ov) ++ lvs j (i + 1) (set ||| 2 ^ i, ov ||| 2 ^ i))).foldl (stN q p) m
    rw [List.foldl_append, List.foldl_append]
    have e1 := ih (i + 1) set ov m (by omega) (up1 hs) (up1 ho)
    rw [laid_0 hs] at e1
    rw [e1]
    have ef : dk ((ldD q none p 65535).1 i) = onQ q i := by
      rw [show (ldD q none p 65535).1 i = layO (onQ q i) 65535 from str_none, lay_y (sb_lt (onQ_lt hq (by omega)))]
      rfl
    have eg : dk ((ldD q none p 65535).2.1 i) = mirN (onQ q i) := by
      rw [show (ldD q none p 65535).2.1 i = layO (mirN (onQ q i)) 65535 from tur_none, lay_y (sb_lt (mirN_lt _))]
      rfl
    rw [ef, eg]
    generalize (lvs j (i + 1) (set, ov)).foldl (stN q p) m = F1
    have e2 := ih (i + 1) (set ||| 2 ^ i) ov F1 (by omega) (bitS_lt hs) (up1 ho)
    rw [laid_1 ho] at e2
    rw [e2]
    generalize (lvs j (i + 1) (set ||| 2 ^ i, ov)).foldl (stN q p) F1 = F2
    have e3 := ih (i + 1) (set ||| 2 ^ i) (ov ||| 2 ^ i) F2 (by omega) (bitS_lt hs) (bitS_lt ho)
    rw [laid_2] at e3
    exact e3
