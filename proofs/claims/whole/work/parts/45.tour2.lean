/-! the class's Tour: arrive, walk, leastSteps -/
def arvN (sh st : Nat → Nat) (F : Nat → Nat → Nat) (dn s : Nat) : Nat → Nat
  | 0 => 1000
  | t + 1 => if dn.testBit t = true ∧ sh s = st t then (if F (dn ^^^ 2 ^ t) s < arvN sh st F dn s t then F (dn ^^^ 2 ^ t) s else arvN sh st F dn s t) else arvN sh st F dn s t
theorem arvN_le (sh st : Nat → Nat) (F : Nat → Nat → Nat) (dn s : Nat) : ∀ t, arvN sh st F dn s t ≤ 1000
  | 0 => Nat.le_refl _
  | t + 1 => by
    have ih := arvN_le sh st F dn s t
    unfold arvN
    split
    · split <;> omega
    · exact ih
theorem xor_bit_lt {m t : Nat} (h : m.testBit t = true) : m ^^^ 2 ^ t < m := by
  have hs : sb (m ^^^ 2 ^ t) m := by
    intro k hk
    rw [Nat.testBit_xor, Nat.testBit_two_pow] at hk
    by_cases e : t = k
    · rw [← e]; exact h
    · rw [decide_eq_false e, Bool.xor_false] at hk; exact hk
  have h1 := sb_le hs
  rcases Nat.lt_or_ge (m ^^^ 2 ^ t) m with h2 | h2
  · exact h2
  · have e : m ^^^ 2 ^ t = m := by omega
    have := congrArg (fun z => z.testBit t) e
    simp only [Nat.testBit_xor, Nat.testBit_two_pow_self, h] at this
    exact absurd this (by decide)
/-- rows of masks below k are known -/
def knowR (u2 : Nat → Int32) (F : Nat → Nat → Nat) (M k : Nat) : Prop := ∀ m, m < k → ∀ s, s < M → u2 (256 * m + s) = nI (F m s) ∧ F m s ≤ 1000
theorem i_ix {m s : Nat} : nI m * 256 + nI s = nI (256 * m + s) := by rw [show (256 : Int32) = nI 256 from rfl, pk_mul, nI_add, Nat.mul_comm]
theorem t_arrive (d : Nat) {u : Nat → Nat → Int32} {sh st : Nat → Nat} {F : Nat → Nat → Nat} {M c dn : Nat} (hM : M ≤ 256) (hc : c ≤ 4) (hd : dn < 16) (hsh : ∀ s, s < M → u 1 s = nI (sh s) ∧ sh s < 65536) (hst : ∀ t, t < c → u 0 t = nI (st t) ∧ st t < 65536) (hF : knowR (u 2) F M dn) : xCt xMs (d + 1) nX4_arrive [.ref 0, .int (nI dn), .int (nI c), .int (nI M)] (eR u) (fun v w => v = none ∧ ∃ u2, (∀ m, m < dn → ∀ s, s < M → u2 (256 * m + s) = u 2 (256 * m + s)) ∧ (∀ s, s < M → u2 (256 * dn + s) = nI (arvN sh st F dn s c)) ∧ w = eR (aU u 2 u2)) := by
  refine xV (M := mX4_arrive) rfl rfl rfl rfl rfl pX4_arrive rfl (fun G g1 g2 g3 => ?_)
  have eat : nI dn * 256 = nI (256 * dn) := by rw [show (256 : Int32) = nI 256 from rfl, pk_mul, Nat.mul_comm]
  refine xwp_go g1 [10] 100 _ _ _ _ ?_
  refine up (k := M) (P := fun i => ∀ x at' u2 z6 z7 z8, x = nI i → at' = nI (256 * dn) → (∀ m, m < dn → ∀ s, s < M → u2 (256 * m + s) = u 2 (256 * m + s)) → (∀ s, s < i → u2 (256 * dn + s) = nI (arvN sh st F dn s c)) → G 10 [some (.ref 0), some (.int (nI dn)), some (.int (nI c)), some (.int (nI M)), some (.int at'), some (.int x), z6, z7, z8] [] (eR (aU u 2 u2))) ?_ ?_ 0 (Nat.zero_le _) _ _ (u 2) _ _ _ rfl eat (fun _ _ _ _ => rfl) (fun s hs => absurd hs (Nat.not_lt_zero s))
  · intro x at' u2 z6 z7 z8 hx ha h1 h2
    subst hx
    refine xwp_go g1 [10] 100 _ _ _ _ ?_
    exact And.intro (fun _ => xrv' (G := G) g2 rfl ⟨rfl, u2, h1, h2, rfl⟩) (fun h => absurd (nI_le (Nat.le_refl _) (by omega)) h)
  · intro i hi ih x at' u2 z6 z7 z8 hx ha h1 h2
    subst hx; subst ha
    refine xwp_go g1 [24] 100 _ _ _ _ ?_
    refine And.intro (fun h => absurd h (nI_ge hi (by omega))) (fun _ => ?_)
    refine up (k := c) (P := fun t => ∀ x y z8, x = nI t → y = nI (arvN sh st F dn i t) → G 24 [some (.ref 0), some (.int (nI dn)), some (.int (nI c)), some (.int (nI M)), some (.int (nI (256 * dn))), some (.int (nI i)), some (.int y), some (.int x), z8] [] (eR (aU u 2 u2))) ?_ ?_ 0 (Nat.zero_le _) _ _ _ rfl rfl
    · intro x y z8 hx hy
      subst hx; subst hy
      refine xwp_go g1 [10, 24] 100 _ _ _ _ ?_
      refine And.intro (fun _ => ?_) (fun h => absurd (nI_le (Nat.le_refl _) (by omega)) h)
      have ei : nI (256 * dn) + nI i = nI (256 * dn + i) := nI_add _ _
      refine And.intro (by rw [ei]; exact vp_in_nI (by omega) (by decide)) ?_
      refine ih _ _ (upd u2 (nI (256 * dn) + nI i).toNatClampNeg (nI (arvN sh st F dn i c))) _ _ _ (nI_1 i) rfl (fun m hm s hs => ?_) (fun s hs => ?_)
      · rw [ei, nI_clamp (by omega), upd_at, if_neg (by omega)]
        exact h1 m hm s hs
      · rw [ei, nI_clamp (by omega), upd_at]
        by_cases e : s = i
        · rw [if_pos (by omega), e]
        · rw [if_neg (by omega)]
          exact h2 s (by omega)
    · intro t ht iht x y z8 hx hy
      subst hx; subst hy
      obtain ⟨s1, s2⟩ := hsh i hi
      obtain ⟨t1, t2⟩ := hst t ht
      have hal := arvN_le sh st F dn i t
      have es : arvN sh st F dn i (t + 1) = if dn.testBit t = true ∧ sh i = st t then (if F (dn ^^^ 2 ^ t) i < arvN sh st F dn i t then F (dn ^^^ 2 ^ t) i else arvN sh st F dn i t) else arvN sh st F dn i t := rfl
      refine xwp_go g1 [10, 24] 100 _ _ _ _ ?_
      refine And.intro (fun h => absurd h (nI_ge ht (by omega))) (fun _ => ?_)
      refine And.intro (fun h => ?_) (fun h => ?_) <;> rw [nI_pow (by omega), bit_and (by omega) (by omega)] at h
      · exact iht _ _ _ (nI_1 t) (by rw [es, if_neg (fun z => by rw [h] at z; exact absurd z.1 (by decide))])
      rw [Bool.not_eq_false] at h
      refine And.intro (vp_in_nI (by omega) (by decide)) (And.intro (vp_in_nI (by omega) (by decide)) ?_)
      have hxl := xor_bit_lt h
      have ej : (nI dn ^^^ (1 : Int32) <<< (nI t &&& 31)) * 256 + nI i = nI (256 * (dn ^^^ 2 ^ t) + i) := by rw [nI_pow (by omega), fb_xorI, i_ix]
      refine And.intro (fun h3 => ?_) (fun h3 => ?_)
      · have h3 : u 1 (nI i).toNatClampNeg = u 0 (nI t).toNatClampNeg := h3
        rw [nI_clamp (by omega), nI_clamp (by omega), s1, t1, nI_eq (by omega) (by omega)] at h3
        refine And.intro (by rw [ej]; exact vp_in_nI (by omega) (by decide)) ?_
        obtain ⟨f1, f2⟩ := hF _ hxl i hi
        have ev : u2 ((nI dn ^^^ (1 : Int32) <<< (nI t &&& 31)) * 256 + nI i).toNatClampNeg = nI (F (dn ^^^ 2 ^ t) i) := by
          rw [ej, nI_clamp (by omega), h1 _ hxl i hi, f1]
        refine iht _ _ _ (nI_1 t) ?_
        show (if u2 ((nI dn ^^^ (1 : Int32) <<< (nI t &&& 31)) * 256 + nI i).toNatClampNeg < nI (arvN sh st F dn i t) then u2 ((nI dn ^^^ (1 : Int32) <<< (nI t &&& 31)) * 256 + nI i).toNatClampNeg else nI (arvN sh st F dn i t)) = _
        rw [if_pos (And.intro h h3)] at es
        rw [ev, es]
        by_cases hlt : F (dn ^^^ 2 ^ t) i < arvN sh st F dn i t
        · rw [if_pos hlt, if_pos ((nI_ltI (by omega) (by omega)).mpr hlt)]
        · rw [if_neg hlt, if_neg (fun z => hlt ((nI_ltI (by omega) (by omega)).mp z))]
      · have h3 : ¬ u 1 (nI i).toNatClampNeg = u 0 (nI t).toNatClampNeg := h3
        rw [nI_clamp (by omega), nI_clamp (by omega), s1, t1, nI_eq (by omega) (by omega)] at h3
        exact iht _ _ _ (nI_1 t) (by rw [es, if_neg (fun z => h3 z.2)])
def wkN (f : Nat → Nat) : Nat → Nat → Nat
  | 0, s => f s
  | i + 1, s => if wkN f i (s ^^^ 2 ^ i) + 1 < wkN f i s then wkN f i (s ^^^ 2 ^ i) + 1 else wkN f i s
theorem wkN_le {f : Nat → Nat} {s : Nat} : ∀ i, wkN f i s ≤ f s
  | 0 => Nat.le_refl _
  | i + 1 => by
    have ih := wkN_le (f := f) (s := s) i
    unfold wkN
    split <;> omega
theorem xor_in {s i n : Nat} (hs : s < 2 ^ n) (hi : i < n) : s ^^^ 2 ^ i < 2 ^ n := Nat.xor_lt_two_pow hs (Nat.pow_lt_pow_right (by decide) hi)
theorem xor_xor {s i : Nat} : s ^^^ 2 ^ i ^^^ 2 ^ i = s := by rw [Nat.xor_assoc, Nat.xor_self, Nat.xor_zero]
theorem xor_ne {s i : Nat} : s ^^^ 2 ^ i ≠ s := by
  intro e
  have := congrArg (fun z => z.testBit i) e
  simp only [Nat.testBit_xor, Nat.testBit_two_pow_self] at this
  revert this
  cases s.testBit i <;> decide
theorem t_walk (d : Nat) {u : Nat → Nat → Int32} {f : Nat → Nat} {n dn : Nat} (hn : n ≤ 8) (hd : dn < 16) (hf : ∀ s, s < 2 ^ n → u 2 (256 * dn + s) = nI (f s) ∧ f s ≤ 1000) : xCt xMs (d + 1) nX4_walk [.ref 0, .int (nI dn), .int (nI n)] (eR u) (fun v w => v = none ∧ ∃ u2, (∀ x, x < 256 * dn → u2 x = u 2 x) ∧ (∀ s, s < 2 ^ n → u2 (256 * dn + s) = nI (wkN f n s)) ∧ w = eR (aU u 2 u2)) := by
  have hM : 2 ^ n ≤ 2 ^ 8 := Nat.pow_le_pow_right (by decide) hn
  refine xV (M := mX4_walk) rfl rfl rfl rfl rfl pX4_walk rfl (fun G g1 g2 g3 => ?_)
  have eat : nI dn * 256 = nI (256 * dn) := by rw [show (256 : Int32) = nI 256 from rfl, pk_mul, Nat.mul_comm]
  have wle : ∀ i s, s < 2 ^ n → wkN f i s ≤ 1000 := fun i s hs => Nat.le_trans (wkN_le i) (hf s hs).2
  refine xwp_go g1 [9] 100 _ _ _ _ ?_
  refine up (k := n) (P := fun i => ∀ x at' u2 z5 z6 z7, x = nI i → at' = nI (256 * dn) → (∀ x, x < 256 * dn → u2 x = u 2 x) → (∀ s, s < 2 ^ n → u2 (256 * dn + s) = nI (wkN f i s)) → G 9 [some (.ref 0), some (.int (nI dn)), some (.int (nI n)), some (.int at'), some (.int x), z5, z6, z7] [] (eR (aU u 2 u2))) ?_ ?_ 0 (Nat.zero_le _) _ _ (u 2) _ _ _ rfl eat (fun _ _ => rfl) (fun s hs => (hf s hs).1)
  · intro x at' u2 z5 z6 z7 hx ha h1 h2
    subst hx
    refine xwp_go g1 [9] 100 _ _ _ _ ?_
    exact And.intro (fun _ => xrv' (G := G) g2 rfl ⟨rfl, u2, h1, h2, rfl⟩) (fun h => absurd (nI_le (Nat.le_refl _) (by omega)) h)
  · intro i hi ih x at' u2 z5 z6 z7 hx ha h1 h2
    subst hx; subst ha
    have epn : (1 : Int32) <<< (nI n &&& 31) = nI (2 ^ n) := nI_pow (by omega)
    refine xwp_go g1 [24] 100 _ _ _ _ ?_
    refine And.intro (fun h => absurd h (nI_ge hi (by omega))) (fun _ => ?_)
    refine up (k := 2 ^ n) (P := fun k => ∀ x b u3 z7, x = nI k → b = nI (2 ^ i) → (∀ x, x < 256 * dn → u3 x = u 2 x) → (∀ s, s < 2 ^ n → u3 (256 * dn + s) = nI (if s < k then wkN f (i + 1) s else wkN f i s)) → G 24 [some (.ref 0), some (.int (nI dn)), some (.int (nI n)), some (.int (nI (256 * dn))), some (.int (nI i)), some (.int b), some (.int x), z7] [] (eR (aU u 2 u3))) ?_ ?_ 0 (Nat.zero_le _) _ _ u2 _ rfl (nI_pow (by omega)) h1 (fun s hs => by rw [if_neg (Nat.not_lt_zero s)]; exact h2 s hs)
    · intro x b u3 z7 hx hb h3 h4
      subst hx
      refine xwp_go g1 [9, 24] 100 _ _ _ _ ?_
      refine And.intro (fun _ => ?_) (fun h => ?_)
      · exact ih _ _ u3 _ _ _ (nI_1 i) rfl h3 (fun s hs => by rw [h4 s hs, if_pos hs])
      · rw [epn] at h
        exact absurd (nI_le (Nat.le_refl _) (by omega)) h
    · intro k hk ihk x b u3 z7 hx hb h3 h4
      subst hx; subst hb
      have hxk := xor_in (s := k) (i := i) hk hi
      refine xwp_go g1 [9, 24] 100 _ _ _ _ ?_
      refine And.intro (fun h => ?_) (fun _ => ?_)
      · rw [epn] at h
        exact absurd h (nI_ge hk (by omega))
      have e1 : nI (256 * dn) + nI k = nI (256 * dn + k) := nI_add _ _
      have e2 : nI (256 * dn) + (nI k ^^^ nI (2 ^ i)) = nI (256 * dn + (k ^^^ 2 ^ i)) := by rw [fb_xorI, nI_add]
      refine And.intro (by rw [e1]; exact vp_in_nI (by omega) (by decide)) (And.intro (by rw [e2]; exact vp_in_nI (by omega) (by decide)) (And.intro (by rw [e1]; exact vp_in_nI (by omega) (by decide)) ?_))
      have v1 : u3 (nI (256 * dn) + nI k).toNatClampNeg = nI (wkN f i k) := by rw [e1, nI_clamp (by omega), h4 k hk, if_neg (Nat.lt_irrefl k)]
      have v2 : u3 (nI (256 * dn) + (nI k ^^^ nI (2 ^ i))).toNatClampNeg + 1 = nI ((if k ^^^ 2 ^ i < k then wkN f (i + 1) (k ^^^ 2 ^ i) else wkN f i (k ^^^ 2 ^ i)) + 1) := by rw [e2, nI_clamp (by omega), h4 _ hxk, nI_1]
      refine ihk _ _ (upd u3 (nI (256 * dn) + nI k).toNatClampNeg (if u3 (nI (256 * dn) + (nI k ^^^ nI (2 ^ i))).toNatClampNeg + 1 < u3 (nI (256 * dn) + nI k).toNatClampNeg then u3 (nI (256 * dn) + (nI k ^^^ nI (2 ^ i))).toNatClampNeg + 1 else u3 (nI (256 * dn) + nI k).toNatClampNeg)) _ (nI_1 k) rfl (fun x hx => ?_) (fun s hs => ?_)
      · rw [e1, nI_clamp (by omega), upd_at, if_neg (by omega)]
        exact h3 x hx
      · have w1 := wle i k hk
        have w2 := wle i _ hxk
        have w3 := wle (i + 1) _ hxk
        rw [v1, v2, e1, nI_clamp (by omega), upd_at]
        by_cases e : s = k
        · rw [if_pos (by omega), e, if_pos (Nat.lt_succ_self k)]
          have key : ∀ A B : Nat, A ≤ 1000 → B ≤ 1000 → (if nI (A + 1) < nI B then nI (A + 1) else nI B) = nI (if A + 1 < B then A + 1 else B) := by
            intro A B hA hB
            by_cases hlt : A + 1 < B
            · rw [if_pos hlt, if_pos ((nI_ltI (by omega) (by omega)).mpr hlt)]
            · rw [if_neg hlt, if_neg (fun z => hlt ((nI_ltI (by omega) (by omega)).mp z))]
          by_cases hlt : k ^^^ 2 ^ i < k
          · rw [if_pos hlt, key _ _ w3 w1]
            refine congrArg nI ?_
            have es : wkN f (i + 1) (k ^^^ 2 ^ i) = if wkN f i (k ^^^ 2 ^ i ^^^ 2 ^ i) + 1 < wkN f i (k ^^^ 2 ^ i) then wkN f i (k ^^^ 2 ^ i ^^^ 2 ^ i) + 1 else wkN f i (k ^^^ 2 ^ i) := rfl
            have et : wkN f (i + 1) k = if wkN f i (k ^^^ 2 ^ i) + 1 < wkN f i k then wkN f i (k ^^^ 2 ^ i) + 1 else wkN f i k := rfl
            rw [es, et, xor_xor]
            generalize wkN f i k = X
            generalize wkN f i (k ^^^ 2 ^ i) = Y
            by_cases c1 : X + 1 < Y
            · rw [if_pos c1, if_neg (by omega), if_neg (by omega)]
            · rw [if_neg c1]
          · rw [if_neg hlt, key _ _ w2 w1]
            rfl
        · rw [if_neg (by omega), h4 s hs]
          refine congrArg nI ?_
          by_cases hlt : s < k
          · rw [if_pos hlt, if_pos (by omega)]
          · rw [if_neg hlt, if_neg (by omega)]
def lstV (f : Nat → Nat) : Nat → Nat
  | 0 => 1000
  | s + 1 => if f s < lstV f s then f s else lstV f s
theorem lstV_le (f : Nat → Nat) : ∀ s, lstV f s ≤ 1000
  | 0 => Nat.le_refl _
  | s + 1 => by
    have := lstV_le f s
    unfold lstV
    split <;> omega
theorem t_leastSteps (d : Nat) {u : Nat → Nat → Int32} {f : Nat → Nat} {M dn : Nat} (hM : M ≤ 256) (hd : dn < 16) (hf : ∀ s, s < M → u 2 (256 * dn + s) = nI (f s) ∧ f s ≤ 1000) : xCt xMs (d + 1) nX4_leastSteps [.ref 0, .int (nI dn), .int (nI M)] (eR u) (xRet (nI (lstV f M)) (eR u)) := by
  refine xV (M := mX4_leastSteps) rfl rfl rfl rfl rfl pX4_leastSteps rfl (fun G g1 g2 g3 => ?_)
  refine xwp_go g1 [7] 100 _ _ _ _ ?_
  refine up (k := M) (P := fun i => ∀ x y, x = nI i → y = nI (lstV f i) → G 7 [some (.ref 0), some (.int (nI dn)), some (.int (nI M)), some (.int y), some (.int x)] [] (eR u)) ?_ ?_ 0 (Nat.zero_le _) _ _ rfl rfl
  · intro x y hx hy
    subst hx; subst hy
    refine xwp_go g1 [7] 100 _ _ _ _ ?_
    exact And.intro (fun _ => xri (G := G) g2 rfl rfl rfl) (fun h => absurd (nI_le (Nat.le_refl _) (by omega)) h)
  · intro i hi ih x y hx hy
    subst hx; subst hy
    obtain ⟨h1, h2⟩ := hf i hi
    have hle := lstV_le f i
    have e1 : nI dn * 256 + nI i = nI (256 * dn + i) := i_ix
    refine xwp_go g1 [7] 100 _ _ _ _ ?_
    refine And.intro (fun h => absurd h (nI_ge hi (by omega))) (fun _ => ?_)
    refine And.intro (by rw [e1]; exact vp_in_nI (by omega) (by decide)) ?_
    refine ih _ _ (nI_1 i) ?_
    show (if u 2 (nI dn * 256 + nI i).toNatClampNeg < nI (lstV f i) then u 2 (nI dn * 256 + nI i).toNatClampNeg else nI (lstV f i)) = nI (if f i < lstV f i then f i else lstV f i)
    rw [e1, nI_clamp (by omega), h1]
    by_cases hlt : f i < lstV f i
    · rw [if_pos hlt, if_pos ((nI_ltI (by omega) (by omega)).mpr hlt)]
    · rw [if_neg hlt, if_neg (fun z => hlt ((nI_ltI (by omega) (by omega)).mp z))]
