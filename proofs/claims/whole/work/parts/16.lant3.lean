/-! the class's Lantern, third part -/
theorem sumI {b : Nat} (f : Nat → Int32) (q : LQ) (r i : Nat) (h : f i = nI (q r i)) : nI (sumQ q r i) + f i = nI (sumQ q r (i + 1)) := by rw [h, nI_add]; rfl
theorem c_allUses (d : Nat) {q : LQ} {a : Nat → Nat → Int32} {s : Nat → Int32} (hr : relS q a s) : xCt xMs (d + 1) nX1_allUses [.ref 0] (eL a s) (xRet (nI (sumQ q 4 (q 6 0))) (eL a s)) := by
  obtain ⟨hok, hA, hW, h0, h1, h2⟩ := hr
  have h6 := hok.1
  refine xV (M := mX1_allUses) rfl rfl rfl rfl rfl pX1_allUses rfl (fun G g1 g2 g3 => ?_)
  refine xwp_go g1 [4] 100 _ _ _ _ ?_
  refine up (k := q 6 0) (P := fun i => ∀ x y, x = nI i → y = nI (sumQ q 4 i) → G 4 [some (.ref 0), some (.int y), some (.int x)] [] (eL a s)) ?_ ?_ 0 (Nat.zero_le _) _ _ rfl rfl
  · intro x y hx hy
    subst hx; subst hy
    refine xwp_go g1 [4] 100 _ _ _ _ ?_
    refine And.intro (fun h => xri (G := G) g2 rfl rfl rfl) (fun h => ?_)
    rw [h0] at h
    exact absurd (nI_le (Nat.le_refl _) (by omega)) h
  · intro i hi ih x y hx hy
    subst hx; subst hy
    refine xwp_go g1 [4] 100 _ _ _ _ ?_
    refine And.intro (fun h => ?_) (fun h => ?_)
    · rw [h0] at h
      exact absurd h (nI_ge hi (by omega))
    · refine And.intro (vp_in_nI (by omega) (by decide)) ?_
      exact ih _ _ (nI_1 i) (by rw [nI_clamp (by omega), (hA i hi).2.2.2.2, nI_add]; rfl)
theorem c_allPrices (d : Nat) {q : LQ} {a : Nat → Nat → Int32} {s : Nat → Int32} (hr : relS q a s) : xCt xMs (d + 1) nX1_allPrices [.ref 0] (eL a s) (xRet (nI (sumQ q 3 (q 6 0))) (eL a s)) := by
  obtain ⟨hok, hA, hW, h0, h1, h2⟩ := hr
  have h6 := hok.1
  refine xV (M := mX1_allPrices) rfl rfl rfl rfl rfl pX1_allPrices rfl (fun G g1 g2 g3 => ?_)
  refine xwp_go g1 [4] 100 _ _ _ _ ?_
  refine up (k := q 6 0) (P := fun i => ∀ x y, x = nI i → y = nI (sumQ q 3 i) → G 4 [some (.ref 0), some (.int y), some (.int x)] [] (eL a s)) ?_ ?_ 0 (Nat.zero_le _) _ _ rfl rfl
  · intro x y hx hy
    subst hx; subst hy
    refine xwp_go g1 [4] 100 _ _ _ _ ?_
    refine And.intro (fun h => xri (G := G) g2 rfl rfl rfl) (fun h => ?_)
    rw [h0] at h
    exact absurd (nI_le (Nat.le_refl _) (by omega)) h
  · intro i hi ih x y hx hy
    subst hx; subst hy
    refine xwp_go g1 [4] 100 _ _ _ _ ?_
    refine And.intro (fun h => ?_) (fun h => ?_)
    · rw [h0] at h
      exact absurd h (nI_ge hi (by omega))
    · refine And.intro (vp_in_nI (by omega) (by decide)) ?_
      exact ih _ _ (nI_1 i) (by rw [nI_clamp (by omega), (hA i hi).2.2.2.1, nI_add]; rfl)
theorem c_nearestWanted (d : Nat) {q : LQ} {a : Nat → Nat → Int32} {s : Nat → Int32} (hr : relS q a s) {p : Nat} (hp : p < 65536) : xCt xMs (d + 2) nX1_nearestWanted [.ref 0, .int (nI p)] (eL a s) (xRet (whI (nearL q p (q 6 1)).1) (eL a s)) := by
  obtain ⟨hok, hA, hW, h0, h1, h2⟩ := hr
  have h6 := hok.2.1
  refine xV (M := mX1_nearestWanted) rfl rfl rfl rfl rfl pX1_nearestWanted rfl (fun G g1 g2 g3 => ?_)
  refine xwp_go g1 [8] 100 _ _ _ _ ?_
  refine up (k := q 6 1) (P := fun i => ∀ x y z u, x = nI i → y = whI (nearL q p i).1 → z = nI (nearL q p i).2 → G 8 [some (.ref 0), some (.int (nI p)), some (.int y), some (.int z), some (.int x), u] [] (eL a s)) ?_ ?_ 0 (Nat.zero_le _) _ _ _ _ rfl rfl rfl
  · intro x y z u hx hy hz
    subst hx; subst hy; subst hz
    refine xwp_go g1 [8] 100 _ _ _ _ ?_
    refine And.intro (fun h => xri (G := G) g2 rfl rfl rfl) (fun h => ?_)
    rw [h1] at h
    exact absurd (nI_le (Nat.le_refl _) (by omega)) h
  · intro i hi ih x y z u hx hy hz
    subst hx; subst hy; subst hz
    have hb := hok.2.2.2.2.2 i hi
    have hx : q 5 i ^^^ p < 65536 := Nat.xor_lt_two_pow (n := 16) hb hp
    refine xwp_go g1 [8] 100 _ _ _ _ ?_
    refine And.intro (fun h => ?_) (fun h => ?_)
    · rw [h1] at h
      exact absurd h (nI_ge hi (by omega))
    · refine And.intro (vp_in_nI (by omega) (by decide)) ?_
      have e : a 5 (nI i).toNatClampNeg ^^^ nI p = nI (q 5 i ^^^ p) := by rw [nI_clamp (by omega), hW i hi, fb_xorI]
      refine xcallR (G := G) g3 [] (ag1 e (c_bitCount d [] hx)) ?_
      refine xwp_go g1 [8] 100 _ _ _ _ ?_
      have l1 := pop_le (q 5 i ^^^ p)
      have l2 := (nearL_le q p i).1
      have es : nearL q p (i + 1) = if pop (q 5 i ^^^ p) < (nearL q p i).2 then (i + 1, pop (q 5 i ^^^ p)) else nearL q p i := rfl
      refine And.intro (fun h => ?_) (fun h => ?_)
      · rw [nI_leI (by omega) (by omega)] at h
        refine ih _ _ _ _ (nI_1 i) ?_ ?_ <;> rw [es, if_neg (by omega)]
      · rw [nI_leI (by omega) (by omega)] at h
        refine ih _ _ _ _ (nI_1 i) ?_ ?_ <;> rw [es, if_pos (by omega)]
        show nI i = whI (i + 1)
        unfold whI
        rw [if_neg (by omega)]; rfl
theorem bit_and {n c : Nat} (hc : c < 31) (hn : n < 2 ^ 31) : nI n &&& nI (2 ^ c) = 0 ↔ n.testBit c = false := by
  rw [fa_and, ← fb_bit_nat, show (0 : Int32) = nI 0 from rfl]
  exact nI_eq (Nat.lt_of_le_of_lt Nat.and_le_left hn) (by decide)
theorem c_cracksToShow (d : Nat) {q : LQ} {a : Nat → Nat → Int32} {s : Nat → Int32} (hr : relS q a s) {set i p : Nat} (hs : set < 2 ^ 31) (hi : i < q 6 0) (hp : p < 65536) : xCt xMs (d + 4) nX1_cracksToShow [.ref 0, .int (nI set), .int (nI i), .int (nI p)] (eL a s) (xRet (nI (crackL (laidQ q (clr set i) 0) (onQ q i) p 16)) (eL a s)) := by
  have h6 := hr.1.1
  have hon := onQ_lt hr.1 hi
  have hla := laidQ_lt hr.1 (clr set i) 0
  refine xV (M := mX1_cracksToShow) rfl rfl rfl rfl rfl pX1_cracksToShow rfl (fun G g1 g2 g3 => ?_)
  refine xwp_go g1 [27] 100 _ _ _ _ ?_
  have ec : nI set &&& ((1 : Int32) <<< (nI i &&& 31) ^^^ (-1)) = nI (clr set i) := by rw [nI_pow (by omega), nI_andn]; rfl
  refine xcallR (G := G) g3 [0, 1, 2, 3, 4, 5, 6] (agr2 ec rfl (c_laid d hr (clr_lt (f := i) hs) (show 0 < 2 ^ 31 by decide))) ?_
  refine xwp_go g1 [27] 100 _ _ _ _ ?_
  refine xcallR (G := G) g3 [0, 1, 2, 3, 4, 5, 6] (c_onSlide (d + 1) hr hi) ?_
  refine xwp_go g1 [27] 100 _ _ _ _ ?_
  refine up (k := 16) (P := fun c => ∀ x y z, x = nI c → y = nI (crackL (laidQ q (clr set i) 0) (onQ q i) p c) → G 27 [some (.ref 0), some (.int (nI set)), some (.int (nI i)), some (.int (nI p)), some (.int (nI (laidQ q (clr set i) 0))), some (.int (nI (onQ q i))), some (.int y), some (.int x), z] [] (eL a s)) ?_ ?_ 0 (Nat.zero_le _) _ _ _ rfl rfl
  · intro x y z hx hy
    subst hx; subst hy
    refine xwp_go g1 [27] 100 _ _ _ _ ?_
    refine And.intro (fun h => xri (G := G) g2 rfl rfl rfl) (fun h => absurd (by decide) h)
  · intro c hc ih x y z hx hy
    subst hx; subst hy
    refine xwp_go g1 [27] 100 _ _ _ _ ?_
    refine And.intro (fun h => absurd h (nI_ge (b := 16) hc (by decide))) (fun h => ?_)
    have es : crackL (laidQ q (clr set i) 0) (onQ q i) p (c + 1) = crackL (laidQ q (clr set i) 0) (onQ q i) p c + (if (onQ q i).testBit c ∧ laidQ q (clr set i) 0 ||| clr (onQ q i) c = p then 1 else 0) := rfl
    refine And.intro (fun h => ?_) (fun h => ?_)
    · rw [nI_pow (by omega), bit_and (by omega) (by omega)] at h
      exact ih _ _ _ (nI_1 c) (by rw [es, if_neg (by rw [h]; exact fun z => by cases z.1)]; rfl)
    · rw [nI_pow (by omega), bit_and (by omega) (by omega), Bool.not_eq_false] at h
      have hcl : laidQ q (clr set i) 0 ||| clr (onQ q i) c < 65536 := Nat.or_lt_two_pow (n := 16) hla (clr_lt (n := 16) hon)
      refine And.intro (fun h' => ?_) (fun h' => ?_) <;> rw [nI_pow (by omega), nI_andn, fa_or] at h'
      · rw [show (onQ q i ^^^ (onQ q i &&& 2 ^ c)) = clr (onQ q i) c from rfl, nI_eq (by omega) (by omega)] at h'
        exact ih _ _ _ (nI_1 c) (by rw [es, if_neg (fun z => h' z.2)]; rfl)
      · rw [show (onQ q i ^^^ (onQ q i &&& 2 ^ c)) = clr (onQ q i) c from rfl, nI_eq (by omega) (by omega)] at h'
        exact ih _ _ _ (nI_1 c) (by rw [es, if_pos ⟨h, h'⟩, nI_1])
/-- two lanterns -/
def eL2 (a : Nat → Nat → Int32) (s : Nat → Int32) (b : Nat → Nat → Int32) (t : Nat → Int32) : xH := [.inr (0, [.ref 1, .ref 2, .ref 3, .ref 4, .ref 5, .ref 6, .int (s 0), .int (s 1), .int (s 2)]), .inl (8, a 0), .inl (8, a 1), .inl (8, a 2), .inl (8, a 3), .inl (8, a 4), .inl (6, a 5),
  .inr (0, [.ref 8, .ref 9, .ref 10, .ref 11, .ref 12, .ref 13, .int (t 0), .int (t 1), .int (t 2)]), .inl (8, b 0), .inl (8, b 1), .inl (8, b 2), .inl (8, b 3), .inl (8, b 4), .inl (6, b 5)]
def cp5 (a b : Nat → Nat → Int32) (i : Nat) : Nat → Nat → Int32 := fun r => cond (Nat.blt r 5) (upd (a r) i (b r i)) (a r)
theorem upd_at {f : Nat → Int32} {i : Nat} {v : Int32} (j : Nat) : upd f i v j = if j = i then v else f j := rfl
theorem c_becomes (d : Nat) {q : LQ} {a b : Nat → Nat → Int32} {s t : Nat → Int32} (hr : relS q b t) : xCt xMs (d + 1) nX1_becomes [.ref 0, .ref 7] (eL2 a s b t) (fun v w => v = none ∧ ∃ a', relS q a' t ∧ w = eL2 a' t b t) := by
  obtain ⟨hok, hA, hW, h0, h1, h2⟩ := hr
  have h8 := hok.1
  have h6 := hok.2.1
  refine xV (M := mX1_becomes) rfl rfl rfl rfl rfl pX1_becomes rfl (fun G g1 g2 g3 => ?_)
  have second : ∀ a1 : Nat → Nat → Int32, (∀ j, j < q 6 0 → a1 0 j = b 0 j ∧ a1 1 j = b 1 j ∧ a1 2 j = b 2 j ∧ a1 3 j = b 3 j ∧ a1 4 j = b 4 j) → G 84 [some (.ref 0), some (.ref 7), some (.int 0)] [] (eL2 a1 s b t) := by
    intro a0 ha0
    refine up (k := q 6 1) (P := fun i => ∀ x a1, x = nI i → (∀ j, j < q 6 0 → a1 0 j = b 0 j ∧ a1 1 j = b 1 j ∧ a1 2 j = b 2 j ∧ a1 3 j = b 3 j ∧ a1 4 j = b 4 j) → (∀ j, j < i → a1 5 j = b 5 j) → G 84 [some (.ref 0), some (.ref 7), some (.int x)] [] (eL2 a1 s b t)) ?_ ?_ 0 (Nat.zero_le _) _ a0 rfl ha0 (fun j hj => absurd hj (Nat.not_lt_zero j))
    · intro x a1 hx g4 g5
      subst hx
      refine xwp_go g1 [84] 100 _ _ _ _ ?_
      refine And.intro (fun h => ?_) (fun h => ?_)
      · refine xrv' (G := G) g2 rfl ⟨rfl, a1, ⟨hok, fun j hj => ?_, fun j hj => ?_, h0, h1, h2⟩, rfl⟩
        · obtain ⟨e0, e1, e2, e3, e4⟩ := g4 j hj
          rw [e0, e1, e2, e3, e4]
          exact hA j hj
        · rw [g5 j hj]
          exact hW j hj
      · rw [h1] at h
        exact absurd (nI_le (Nat.le_refl _) (by omega)) h
    · intro i hi ih x a1 hx g4 g5
      subst hx
      refine xwp_go g1 [84] 100 _ _ _ _ ?_
      refine And.intro (fun h => ?_) (fun h => ?_)
      · rw [h1] at h
        exact absurd h (nI_ge hi (by omega))
      · refine And.intro (fun h => absurd h (nI_ge (b := 6) (by omega) (by decide))) (fun h => ?_)
        refine And.intro (vp_in_nI (by omega) (by decide)) ?_
        refine And.intro (vp_in_nI (by omega) (by decide)) ?_
        refine ih _ (aU a1 5 (upd (a1 5) (nI i).toNatClampNeg (b 5 (nI i).toNatClampNeg))) (nI_1 i) g4 (fun j hj => ?_)
        show upd (a1 5) (nI i).toNatClampNeg (b 5 (nI i).toNatClampNeg) j = b 5 j
        rw [nI_clamp (by omega), upd_at]
        by_cases e : j = i
        · rw [if_pos e, e]
        · rw [if_neg e]
          exact g5 j (by omega)
  refine xwp_go g1 [2] 100 _ _ _ _ ?_
  refine up (k := q 6 0) (P := fun i => ∀ x a1, x = nI i → (∀ j, j < i → a1 0 j = b 0 j ∧ a1 1 j = b 1 j ∧ a1 2 j = b 2 j ∧ a1 3 j = b 3 j ∧ a1 4 j = b 4 j) → G 2 [some (.ref 0), some (.ref 7), some (.int x)] [] (eL2 a1 s b t)) ?_ ?_ 0 (Nat.zero_le _) _ a rfl (fun j hj => absurd hj (Nat.not_lt_zero j))
  · intro x a1 hx g4
    subst hx
    refine xwp_go g1 [84] 100 _ _ _ _ ?_
    refine And.intro (fun h => second a1 g4) (fun h => ?_)
    rw [h0] at h
    exact absurd (nI_le (Nat.le_refl _) (by omega)) h
  · intro i hi ih x a1 hx g4
    subst hx
    refine xwp_go g1 [2] 100 _ _ _ _ ?_
    refine And.intro (fun h => ?_) (fun h => ?_)
    · rw [h0] at h
      exact absurd h (nI_ge hi (by omega))
    · refine And.intro (fun h => absurd h (nI_ge (b := 8) (by omega) (by decide))) (fun h => ?_)
      refine And.intro (vp_in_nI (by omega) (by decide)) ?_
      refine And.intro (vp_in_nI (by omega) (by decide)) ?_
      refine And.intro (vp_in_nI (by omega) (by decide)) ?_
      refine And.intro (vp_in_nI (by omega) (by decide)) ?_
      refine And.intro (vp_in_nI (by omega) (by decide)) ?_
      refine And.intro (vp_in_nI (by omega) (by decide)) ?_
      refine And.intro (vp_in_nI (by omega) (by decide)) ?_
      refine And.intro (vp_in_nI (by omega) (by decide)) ?_
      refine And.intro (vp_in_nI (by omega) (by decide)) ?_
      refine And.intro (vp_in_nI (by omega) (by decide)) ?_
      refine ih _ (cp5 a1 b (nI i).toNatClampNeg) (nI_1 i) (fun j hj => ?_)
      have key : ∀ r, r < 5 → cp5 a1 b (nI i).toNatClampNeg r j = if j = i then b r i else a1 r j := by
        intro r hr5
        unfold cp5
        rw [show Nat.blt r 5 = true from by simpa [Nat.blt_eq] using hr5, nI_clamp (by omega)]
        rfl
      rw [key 0 (by decide), key 1 (by decide), key 2 (by decide), key 3 (by decide), key 4 (by decide)]
      by_cases e : j = i
      · simp [e]
      · simpa [e] using g4 j (by omega)
/-- what comes of a statement, or not -/
def xAdd (ok : Prop) (q' : LQ) (w0 : xH) : xPost := fun v w => (ok ∧ v = some (.int 1) ∧ ∃ a' s', relS q' a' s' ∧ w = eL a' s') ∨ (¬ ok ∧ v = some (.int 0) ∧ w = w0)
theorem c_heats (d : Nat) {q : LQ} {a : Nat → Nat → Int32} {s : Nat → Int32} (hr : relS q a s) {v : Nat} (hv : v ≤ 9) : xCt xMs (d + 1) nX1_heats [.ref 0, .int (nI v)] (eL a s) (xAdd (1 ≤ v) (heatQ q v) (eL a s)) := by
  refine xV (M := mX1_heats) rfl rfl rfl rfl rfl pX1_heats rfl (fun G g1 g2 g3 => ?_)
  refine xwp_go g1 [] 100 _ _ _ _ ?_
  refine And.intro (fun h => ?_) (fun h => ?_) <;> rw [show (1 : Int32) = nI 1 from rfl, nI_ltI (by omega) (by decide)] at h
  · exact xrz' (G := G) g2 rfl (Or.inl rfl) (Or.inr ⟨by omega, rfl, rfl⟩)
  · refine And.intro (fun h' => ?_) (fun h' => ?_)
    · exact xrz' (G := G) g2 rfl (Or.inr rfl) (Or.inl ⟨by omega, rfl, a, sU s 2 (nI v), rel_heat hr (by omega) hv rfl rfl rfl, rfl⟩)
    · rw [show (9 : Int32) = nI 9 from rfl, nI_leI (by omega) (by decide)] at h'
      omega
theorem c_addsWanted (d : Nat) {q : LQ} {a : Nat → Nat → Int32} {s : Nat → Int32} (hr : relS q a s) {p : Nat} (hp : p < 65536) : xCt xMs (d + 1) nX1_addsWanted [.ref 0, .int (nI p)] (eL a s) (xAdd (q 6 1 < 6) (wantQ q p) (eL a s)) := by
  have h6 := hr.1.2.1
  have h1 := hr.2.2.2.2.1
  refine xV (M := mX1_addsWanted) rfl rfl rfl rfl rfl pX1_addsWanted rfl (fun G g1 g2 g3 => ?_)
  refine xwp_go g1 [] 100 _ _ _ _ ?_
  refine And.intro (fun h => ?_) (fun h => ?_) <;> rw [h1, show (6 : Int32) = nI 6 from rfl, nI_ltI (by omega) (by decide)] at h
  · refine And.intro (by rw [h1]; exact vp_in_nI (by omega) (by decide)) ?_
    refine xrz' (G := G) g2 rfl (Or.inr rfl) (Or.inl ⟨h, rfl, aU a 5 (upd (a 5) (s 1).toNatClampNeg (nI p)), sU s 1 (s 1 + 1), rel_want hr h hp rfl rfl rfl rfl rfl (fun j => ?_) rfl ?_ rfl, rfl⟩)
    · show upd (a 5) (s 1).toNatClampNeg (nI p) j = _
      rw [h1, nI_clamp (by omega)]; rfl
    · show s 1 + 1 = _
      rw [h1, nI_1]
  · exact xrz' (G := G) g2 rfl (Or.inl rfl) (Or.inr ⟨h, rfl, rfl⟩)
theorem c_addsSlide (d : Nat) {q : LQ} {a : Nat → Nat → Int32} {s : Nat → Int32} (hr : relS q a s) {k f r p : Nat} (hk : k ≤ 9) (hf : f ≤ 9) (hr9 : r ≤ 99) (hp : p < 65536) : xCt xMs (d + 1) nX1_addsSlide [.ref 0, .int (nI k), .int (nI f), .int (nI r), .int (nI p)] (eL a s) (xAdd (k ≤ 5 ∧ q 6 0 < 8) (addQ q k f r p) (eL a s)) := by
  have h8 := hr.1.1
  have h0 := hr.2.2.2.1
  refine xV (M := mX1_addsSlide) rfl rfl rfl rfl rfl pX1_addsSlide rfl (fun G g1 g2 g3 => ?_)
  refine xwp_go g1 [] 100 _ _ _ _ ?_
  refine And.intro (fun h => absurd h (nI_pos (by omega))) (fun h => ?_)
  refine And.intro (fun h => ?_) (fun h => ?_) <;> rw [show (5 : Int32) = nI 5 from rfl, nI_ltI (by decide) (by omega)] at h
  · exact xrz' (G := G) g2 rfl (Or.inl rfl) (Or.inr ⟨by omega, rfl, rfl⟩)
  refine And.intro (fun h' => ?_) (fun h' => ?_) <;> rw [h0, show (8 : Int32) = nI 8 from rfl, nI_ltI (by omega) (by decide)] at h'
  · have hin : vp_in (s 0) 8 := by rw [h0]; exact vp_in_nI h' (by decide)
    have cl : (s 0).toNatClampNeg = q 6 0 := by rw [h0]; exact nI_clamp (by omega)
    refine And.intro hin (And.intro hin (And.intro hin (And.intro hin (And.intro hin ?_))))
    refine xrz' (G := G) g2 rfl (Or.inr rfl) (Or.inl ⟨⟨by omega, h'⟩, rfl, aU (aU (aU (aU (aU a 0 (upd (a 0) (s 0).toNatClampNeg (nI k))) 1 (upd (a 1) (s 0).toNatClampNeg (nI f))) 3 (upd (a 3) (s 0).toNatClampNeg (nI r))) 2 (upd (a 2) (s 0).toNatClampNeg (nI p))) 4 (upd (a 4) (s 0).toNatClampNeg 0), sU s 0 (s 0 + 1), rel_add hr h' (by omega) hf hr9 hp rfl ?_ ?_ ?_ ?_ ?_ ?_ rfl rfl, rfl⟩)
    · intro j; show upd (a 0) _ _ j = _; rw [cl]; rfl
    · intro j; show upd (a 1) _ _ j = _; rw [cl]; rfl
    · intro j; show upd (a 2) _ _ j = _; rw [cl]; rfl
    · intro j; show upd (a 3) _ _ j = _; rw [cl]; rfl
    · intro j; show upd (a 4) _ _ j = _; rw [cl]; rfl
    · show s 0 + 1 = _
      rw [h0, nI_1]
  · exact xrz' (G := G) g2 rfl (Or.inl rfl) (Or.inr ⟨by omega, rfl, rfl⟩)
