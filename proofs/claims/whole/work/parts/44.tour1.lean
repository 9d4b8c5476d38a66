/-! the class's Tour: small methods -/
def eR (u : Nat → Nat → Int32) : xH := [.inr (3, [.ref 1, .ref 2, .ref 3]), .inl (4, u 0), .inl (256, u 1), .inl (4096, u 2)]
def eU (u : Nat → Nat → Int32) (a : Nat → Nat → Int32) (s : Nat → Int32) : xH := [.inr (3, [.ref 1, .ref 2, .ref 3]), .inl (4, u 0), .inl (256, u 1), .inl (4096, u 2),
  .inr (0, [.ref 5, .ref 6, .ref 7, .ref 8, .ref 9, .ref 10, .int (s 0), .int (s 1), .int (s 2)]), .inl (8, a 0), .inl (8, a 1), .inl (8, a 2), .inl (8, a 3), .inl (8, a 4), .inl (6, a 5)]
abbrev pR : List Nat := [0, 1, 2, 3]
abbrev pUl : List Nat := [4, 5, 6, 7, 8, 9, 10]
abbrev pU : List Nat := [0, 1, 2, 3, 4, 5, 6, 7, 8, 9, 10]
theorem xputR (u u' : Nat → Nat → Int32) : xput pR pR (eR u') (eR u) = eR u' := rfl
theorem xputUR (u u' a : Nat → Nat → Int32) (s : Nat → Int32) : xput pR pR (eR u') (eU u a s) = eU u' a s := rfl
theorem xputU (u u' a a' : Nat → Nat → Int32) (s s' : Nat → Int32) : xput pU pU (eU u' a' s') (eU u a s) = eU u' a' s' := rfl
theorem or_add {m i : Nat} (h : m < 2 ^ i) : m ||| 2 ^ i = 2 ^ i + m := by
  have := Nat.two_pow_add_eq_or_of_lt h 1
  rw [Nat.mul_one] at this
  rw [Nat.or_comm, ← this]
theorem t_layAll (d : Nat) {q : LQ} {a : Nat → Nat → Int32} {s : Nat → Int32} (hr : relS q a s) (u : Nat → Nat → Int32) : xCt xMs (d + 3) nX4_layAll [.ref 0, .ref 4, .int (nI (q 6 0))] (eU u a s) (fun v w => v = none ∧ ∃ u1, (∀ m, m < 2 ^ q 6 0 → u1 m = nI (laidQ q m 0)) ∧ w = eU (aU u 1 u1) a s) := by
  have h8 := hr.1.1
  have hl := lt256 hr.1
  refine xV (M := mX4_layAll) rfl rfl rfl rfl rfl pX4_layAll rfl (fun G g1 g2 g3 => ?_)
  refine xwp_go g1 [9] 100 _ _ _ _ ?_
  refine And.intro (vp_in_nI (n := 0) (by decide) (by decide)) ?_
  refine up (k := q 6 0) (P := fun i => ∀ x u1 z4 z5 z6, x = nI i → (∀ m, m < 2 ^ i → u1 m = nI (laidL q m 0 i)) → G 9 [some (.ref 0), some (.ref 4), some (.int (nI (q 6 0))), some (.int x), z4, z5, z6] [] (eU (aU u 1 u1) a s)) ?_ ?_ 0 (Nat.zero_le _) _ (upd (u 1) (nI 0).toNatClampNeg 0) _ _ _ rfl (fun m hm => ?_)
  · intro x u1 z4 z5 z6 hx hu
    subst hx
    refine xwp_go g1 [9] 100 _ _ _ _ ?_
    exact And.intro (fun _ => xrv' (G := G) g2 rfl ⟨rfl, u1, hu, rfl⟩) (fun h => absurd (nI_le (Nat.le_refl _) (by omega)) h)
  · intro i hi ih x u1 z4 z5 z6 hx hu
    subst hx
    have hpi : 2 ^ (i + 1) ≤ 2 ^ 8 := Nat.pow_le_pow_right (by decide) (by omega)
    have hp2 : 2 ^ (i + 1) = 2 * 2 ^ i := by rw [Nat.pow_succ, Nat.mul_comm]
    refine xwp_go g1 [9] 100 _ _ _ _ ?_
    refine And.intro (fun h => absurd h (nI_ge hi (by omega))) (fun _ => ?_)
    refine xcallR (G := G) g3 pUl (c_onSlide d hr hi) ?_
    have ep : (1 : Int32) <<< (nI i &&& 31) = nI (2 ^ i) := nI_pow (by omega)
    refine xwp_go g1 [29] 100 _ _ _ _ ?_
    refine up (k := 2 ^ i) (P := fun k => ∀ x b u1, x = nI k → b = nI (2 ^ i) → (∀ m, m < 2 ^ i → u1 m = nI (laidL q m 0 i)) → (∀ m, m < k → u1 (2 ^ i + m) = nI (laidL q m 0 i ||| onQ q i)) → G 29 [some (.ref 0), some (.ref 4), some (.int (nI (q 6 0))), some (.int (nI i)), some (.int (nI (onQ q i))), some (.int b), some (.int x)] [] (eU (aU u 1 u1) a s)) ?_ ?_ 0 (Nat.zero_le _) _ _ u1 rfl ep hu (fun m hm => absurd hm (Nat.not_lt_zero m))
    · intro x b u1 hx hb h1 h2
      subst hx; subst hb
      refine xwp_go g1 [9, 29] 100 _ _ _ _ ?_
      refine And.intro (fun _ => ?_) (fun h => absurd (nI_le (Nat.le_refl _) (by omega)) h)
      refine ih _ u1 _ _ _ (nI_1 i) (fun m hm => ?_)
      rcases Nat.lt_or_ge m (2 ^ i) with h | h
      · rw [h1 m h, laid_0 h]
      · have e := h2 (m - 2 ^ i) (by omega)
        rw [show 2 ^ i + (m - 2 ^ i) = m by omega] at e
        rw [e, ← laid_1 (Nat.two_pow_pos i), or_add (show m - 2 ^ i < 2 ^ i by omega), show 2 ^ i + (m - 2 ^ i) = m by omega]
    · intro k hk ihk x b u1 hx hb h1 h2
      subst hx; subst hb
      refine xwp_go g1 [9, 29] 100 _ _ _ _ ?_
      refine And.intro (fun h => absurd h (nI_ge hk (by omega))) (fun _ => ?_)
      have hin2 : vp_in (nI (2 ^ i) + nI k) 256 := by rw [nI_add]; exact vp_in_nI (by omega) (by decide)
      refine And.intro (vp_in_nI (by omega) (by decide)) (And.intro hin2 ?_)
      refine ihk _ _ (upd u1 (nI (2 ^ i) + nI k).toNatClampNeg (u1 (nI k).toNatClampNeg ||| nI (onQ q i))) (nI_1 k) rfl (fun m hm => ?_) (fun m hm => ?_)
      · rw [nI_add, nI_clamp (by omega), upd_at, if_neg (by omega)]
        exact h1 m hm
      · rw [nI_add, nI_clamp (by omega), nI_clamp (by omega), upd_at]
        by_cases e : m = k
        · rw [if_pos (by omega), h1 k hk, fa_or, e]
        · rw [if_neg (by omega)]
          exact h2 m (by omega)
  · obtain rfl : m = 0 := by
      have : (2 : Nat) ^ 0 = 1 := rfl
      omega
    rw [nI_clamp (by decide), upd_at, if_pos rfl]
    rfl
theorem t_isShownByOne (d : Nat) {u : Nat → Nat → Int32} {f : Nat → Nat} {M p : Nat} (hM : M ≤ 256) (hu : ∀ m, m < M → u 1 m = nI (f m) ∧ f m < 65536) (hp : p < 65536) : xCt xMs (d + 1) nX4_isShownByOne [.ref 0, .int (nI p), .int (nI M)] (eR u) (xRet (bI ((List.range M).any (fun m => f m == p))) (eR u)) := by
  refine xV (M := mX4_isShownByOne) rfl rfl rfl rfl rfl pX4_isShownByOne rfl (fun G g1 g2 g3 => ?_)
  refine xwp_go g1 [2] 100 _ _ _ _ ?_
  refine up (k := M) (P := fun i => ∀ x, x = nI i → (List.range i).any (fun m => f m == p) = false → G 2 [some (.ref 0), some (.int (nI p)), some (.int (nI M)), some (.int x)] [] (eR u)) ?_ ?_ 0 (Nat.zero_le _) _ rfl rfl
  · intro x hx hf
    subst hx
    refine xwp_go g1 [2] 100 _ _ _ _ ?_
    exact And.intro (fun _ => xrz (G := G) g2 rfl (Or.inl rfl) (by rw [hf]; rfl) rfl) (fun h => absurd (nI_le (Nat.le_refl _) (by omega)) h)
  · intro i hi ih x hx hf
    subst hx
    obtain ⟨h1, h2⟩ := hu i hi
    refine xwp_go g1 [2] 100 _ _ _ _ ?_
    refine And.intro (fun h => absurd h (nI_ge hi (by omega))) (fun _ => ?_)
    refine And.intro (vp_in_nI (by omega) (by decide)) ?_
    refine And.intro (fun h => ?_) (fun h => ?_) <;> rw [nI_clamp (by omega), h1, nI_eq (by omega) (by omega)] at h
    · refine ih _ (nI_1 i) ?_
      rw [List.range_succ, List.any_append, hf, Bool.false_or]
      simpa using h
    · refine xrz (G := G) g2 rfl (Or.inr rfl) ?_ rfl
      rw [show (List.range M).any (fun m => f m == p) = true from by
        rw [List.any_eq_true]
        exact ⟨i, List.mem_range.mpr hi, by rw [h]; simp⟩]
      rfl
/-- the wanted pictures that one set shows -/
def stopsL (q : LQ) : Nat → List Nat
  | 0 => []
  | i + 1 => if (List.range (2 ^ q 6 0)).any (fun m => laidQ q m 0 == q 5 i) = true then stopsL q i ++ [q 5 i] else stopsL q i
theorem stops_le (q : LQ) : ∀ i, (stopsL q i).length ≤ i
  | 0 => Nat.le_refl _
  | i + 1 => by
    have := stops_le q i
    unfold stopsL
    split
    · rw [List.length_append]; show _ + 1 ≤ _; omega
    · omega
theorem stops_lt {q : LQ} (h : okS q) : ∀ i, i ≤ q 6 1 → ∀ x, x ∈ stopsL q i → x < 65536
  | 0, _, x, hx => absurd hx (List.not_mem_nil)
  | i + 1, hi, x, hx => by
    unfold stopsL at hx
    split at hx
    · rcases List.mem_append.mp hx with hx | hx
      · exact stops_lt h i (by omega) x hx
      · rw [List.mem_singleton.mp hx]; exact h.2.2.2.2.2 i (by omega)
    · exact stops_lt h i (by omega) x hx
/-- the t-th of a list -/
def gA : List Nat → Nat → Nat
  | [], _ => 0
  | x :: _, 0 => x
  | _ :: l, t + 1 => gA l t
theorem gA_app : ∀ {l m : List Nat} {t : Nat}, t < l.length → gA (l ++ m) t = gA l t
  | [], _, t, h => absurd h (Nat.not_lt_zero t)
  | _ :: _, _, 0, _ => rfl
  | _ :: l, m, t + 1, h => gA_app (l := l) (m := m) (t := t) (by have h : t + 1 < l.length + 1 := h; omega)
theorem gA_end (x : Nat) : ∀ l : List Nat, gA (l ++ [x]) l.length = x
  | [] => rfl
  | _ :: l => gA_end x l
def stopAt (q : LQ) (t : Nat) : Nat := gA (stopsL q (q 6 1)) t
theorem t_findStops (d : Nat) {q : LQ} {a : Nat → Nat → Int32} {s : Nat → Int32} (hr : relS q a s) {u : Nat → Nat → Int32} (hu : ∀ m, m < 2 ^ q 6 0 → u 1 m = nI (laidQ q m 0)) : xCt xMs (d + 3) nX4_findStops [.ref 0, .ref 4, .int (nI (2 ^ q 6 0))] (eU u a s) (fun v w => v = some (.int (nI (stopsL q (q 6 1)).length)) ∧ ∃ u0, (∀ t, t < 4 → t < (stopsL q (q 6 1)).length → u0 t = nI (stopAt q t)) ∧ w = eU (aU u 0 u0) a s) := by
  have h6 := hr.1.2.1
  have h1 := hr.2.2.2.2.1
  have hl := lt256 hr.1
  refine xV (M := mX4_findStops) rfl rfl rfl rfl rfl pX4_findStops rfl (fun G g1 g2 g3 => ?_)
  refine xwp_go g1 [5] 100 _ _ _ _ ?_
  refine up (k := q 6 1) (P := fun i => ∀ x y u0 z5, x = nI i → y = nI (stopsL q i).length → (∀ t, t < 4 → t < (stopsL q i).length → u0 t = nI (gA (stopsL q i) t)) → G 5 [some (.ref 0), some (.ref 4), some (.int (nI (2 ^ q 6 0))), some (.int y), some (.int x), z5] [] (eU (aU u 0 u0) a s)) ?_ ?_ 0 (Nat.zero_le _) _ _ (u 0) _ rfl rfl (fun t _ h => absurd h (Nat.not_lt_zero t))
  · intro x y u0 z5 hx hy h0
    subst hx; subst hy
    refine xwp_go g1 [5] 100 _ _ _ _ ?_
    refine And.intro (fun _ => xri' (G := G) g2 rfl ⟨rfl, u0, h0, rfl⟩) (fun h => ?_)
    rw [h1] at h
    exact absurd (nI_le (Nat.le_refl _) (by omega)) h
  · intro i hi ih x y u0 z5 hx hy h0
    subst hx; subst hy
    have hle := stops_le q i
    have es : stopsL q (i + 1) = if (List.range (2 ^ q 6 0)).any (fun m => laidQ q m 0 == q 5 i) = true then stopsL q i ++ [q 5 i] else stopsL q i := rfl
    refine xwp_go g1 [5] 100 _ _ _ _ ?_
    refine And.intro (fun h => ?_) (fun _ => ?_)
    · rw [h1] at h
      exact absurd h (nI_ge hi (by omega))
    refine xcallR (G := G) g3 pUl (c_wantedPicture d hr hi) ?_
    refine xwp_go g1 [5] 100 _ _ _ _ ?_
    refine xcallR (G := G) g3 pR (t_isShownByOne (u := aU u 0 u0) (f := fun m => laidQ q m 0) (d + 1) (M := 2 ^ q 6 0) (p := q 5 i) (by omega) (fun m hm => ⟨hu m hm, laidQ_lt hr.1 m 0⟩) (hr.1.2.2.2.2.2 i hi)) ?_
    refine xwp_go g1 [5] 100 _ _ _ _ ?_
    refine And.intro (fun h => ?_) (fun h => ?_) <;> rw [bI_0] at h
    · rw [if_pos (Bool.not_eq_false _ ▸ h)] at es
      refine And.intro (fun h4 => ?_) (fun h4 => ?_) <;> rw [show (4 : Int32) = nI 4 from rfl, nI_leI (by decide) (by omega)] at h4
      · refine ih _ _ u0 _ (nI_1 i) (by rw [es, List.length_append, nI_1]; rfl) (fun t ht hlt => ?_)
        rw [h0 t ht (by omega), es, gA_app (by omega)]
      · have cl : (nI (stopsL q i).length).toNatClampNeg = (stopsL q i).length := nI_clamp (by omega)
        refine And.intro (vp_in_nI (by omega) (by decide)) ?_
        refine ih _ _ (upd u0 (nI (stopsL q i).length).toNatClampNeg (nI (q 5 i))) _ (nI_1 i) (by rw [es, List.length_append, nI_1]; rfl) (fun t ht hlt => ?_)
        rw [cl, upd_at, es]
        by_cases e : t = (stopsL q i).length
        · rw [if_pos e, e, gA_end]
        · rw [if_neg e]
          rw [es, List.length_append] at hlt
          have hlt : t < (stopsL q i).length + 1 := hlt
          rw [h0 t ht (by omega), gA_app (by omega)]
    · rw [if_neg (by rw [h]; decide)] at es
      exact ih _ _ u0 _ (nI_1 i) (by rw [es]) (by rw [es]; exact h0)
