/-! the reference's round: findAsked, lowers, goesFrom -/
theorem m_findAsked (d : Nat) {q : LQ} {a : Nat → Nat → Int32} {s : Nat → Int32} (hr : relS q a s) : xCt xMs (d + 4) nX6_findAsked [.ref 0] (eM a s) (fun v w => v = some (.int (nI (stopC q))) ∧ ∃ f13 f14, (∀ m, m < 2 ^ q 6 0 → f13 m = nI (laidQ q m 0)) ∧ (∀ t, t < stopC q → f14 t = nI (stopAt q t)) ∧ w = eM (aU (aU a 13 f13) 14 f14) s) := by
  have h8 := hr.1.1
  have h6 := hr.1.2.1
  have hl := lt256 hr.1
  have h0 := hr.2.2.2.1
  have h1 := hr.2.2.2.2.1
  have ep : (1 : Int32) <<< (s 0 &&& 31) = nI (2 ^ q 6 0) := by rw [h0]; exact nI_pow (by omega)
  refine xV (M := mX6_findAsked) rfl rfl rfl rfl rfl pX6_findAsked rfl (fun G g1 g2 g3 => ?_)
  have second : ∀ f13 : Nat → Int32, (∀ m, m < 2 ^ q 6 0 → f13 m = nI (laidQ q m 0)) → ∀ z1 z2 z3 z4, G 30 [some (.ref 0), z1, z2, z3, z4] [] (eM (aU a 13 f13) s) := by
    intro f13 h13 z1 z2 z3 z4
    refine xwp_go g1 [34] 100 _ _ _ _ ?_
    refine up (k := q 6 1) (P := fun i => ∀ x y f14 z3 z4, x = nI i → y = nI (stopsL q i).length → (∀ t, t < (stopsL q i).length → f14 t = nI (gA (stopsL q i) t)) → G 34 [some (.ref 0), some (.int y), some (.int x), z3, z4] [] (eM (aU (aU a 13 f13) 14 f14) s)) ?_ ?_ 0 (Nat.zero_le _) _ _ (a 14) _ _ rfl rfl (fun t h => absurd h (Nat.not_lt_zero t))
    · intro x y f14 z3 z4 hx hy h14
      subst hx; subst hy
      refine xwp_go g1 [34] 100 _ _ _ _ ?_
      refine And.intro (fun _ => xri' (G := G) g2 rfl ⟨rfl, f13, f14, h13, h14, rfl⟩) (fun h => ?_)
      rw [h1] at h
      exact absurd (nI_le (Nat.le_refl _) (by omega)) h
    · intro i hi ih x y f14 z3 z4 hx hy h14
      subst hx; subst hy
      have hle := stops_le q i
      have hb := hr.1.2.2.2.2.2 i hi
      have e5 : a 5 (nI i).toNatClampNeg = nI (q 5 i) := by rw [nI_clamp (by omega), hr.2.2.1 i hi]
      have es : stopsL q (i + 1) = if (List.range (2 ^ q 6 0)).any (fun m => laidQ q m 0 == q 5 i) = true then stopsL q i ++ [q 5 i] else stopsL q i := rfl
      refine xwp_go g1 [34, 47] 100 _ _ _ _ ?_
      refine And.intro (fun h => ?_) (fun _ => ?_)
      · rw [h1] at h
        exact absurd h (nI_ge hi (by omega))
      refine up (k := 2 ^ q 6 0) (P := fun k => ∀ x y, x = nI k → y = bI ((List.range k).any (fun m => laidQ q m 0 == q 5 i)) → G 47 [some (.ref 0), some (.int (nI (stopsL q i).length)), some (.int (nI i)), some (.int y), some (.int x)] [] (eM (aU (aU a 13 f13) 14 f14) s)) ?_ ?_ 0 (Nat.zero_le _) _ _ rfl rfl
      · intro x y hx hy
        subst hx; subst hy
        refine xwp_go g1 [34, 47] 100 _ _ _ _ ?_
        refine And.intro (fun _ => ?_) (fun h => ?_)
        · refine And.intro (fun h => ?_) (fun h => ?_) <;> rw [bI_0] at h
          · rw [if_pos (Bool.not_eq_false _ ▸ h)] at es
            have cl : (nI (stopsL q i).length).toNatClampNeg = (stopsL q i).length := nI_clamp (by omega)
            refine And.intro (vp_in_nI (by omega) (by decide)) (And.intro (vp_in_nI (by omega) (by decide)) ?_)
            refine ih _ _ (upd f14 (nI (stopsL q i).length).toNatClampNeg (a 5 (nI i).toNatClampNeg)) _ _ (nI_1 i) (by rw [es, List.length_append, nI_1]; rfl) (fun t hlt => ?_)
            rw [cl, upd_at, es, e5]
            by_cases e : t = (stopsL q i).length
            · rw [if_pos e, e, gA_end]
            · rw [if_neg e]
              rw [es, List.length_append] at hlt
              have hlt : t < (stopsL q i).length + 1 := hlt
              rw [h14 t (by omega), gA_app (by omega)]
          · rw [if_neg (by rw [h]; decide)] at es
            exact ih _ _ f14 _ _ (nI_1 i) (by rw [es]) (by rw [es]; exact h14)
        · rw [ep] at h
          exact absurd (nI_le (Nat.le_refl _) (by omega)) h
      · intro k hk ihk x y hx hy
        subst hx; subst hy
        have hlk := laidQ_lt hr.1 k 0
        refine xwp_go g1 [34, 47] 100 _ _ _ _ ?_
        refine And.intro (fun h => ?_) (fun _ => ?_)
        · rw [ep] at h
          exact absurd h (nI_ge hk (by omega))
        refine And.intro (fun h => ?_) (fun h => ?_) <;> rw [bI_0] at h
        · rw [Bool.not_eq_false] at h
          refine ihk _ _ (nI_1 k) ?_
          rw [List.range_succ, List.any_append, h, Bool.true_or]; rfl
        · refine And.intro (vp_in_nI (by omega) (by decide)) (And.intro (vp_in_nI (by omega) (by decide)) ?_)
          have e13 : f13 (nI k).toNatClampNeg = nI (laidQ q k 0) := by rw [nI_clamp (by omega), h13 k hk]
          refine And.intro (fun h2 => ?_) (fun h2 => ?_)
          · have h2 : ¬ f13 (nI k).toNatClampNeg = a 5 (nI i).toNatClampNeg := h2
            rw [e13, e5, nI_eq (by omega) (by omega)] at h2
            refine ihk _ _ (nI_1 k) ?_
            rw [List.range_succ, List.any_append, h, Bool.false_or]
            rw [show [k].any (fun m => laidQ q m 0 == q 5 i) = false from by simpa using h2]; rfl
          · have h2 : f13 (nI k).toNatClampNeg = a 5 (nI i).toNatClampNeg := h2
            rw [e13, e5, nI_eq (by omega) (by omega)] at h2
            refine ihk _ _ (nI_1 k) ?_
            rw [List.range_succ, List.any_append, h, Bool.false_or]
            rw [show [k].any (fun m => laidQ q m 0 == q 5 i) = true from by simpa using h2]; rfl
  refine xwp_go g1 [2] 100 _ _ _ _ ?_
  refine up (k := 2 ^ q 6 0) (P := fun i => ∀ x f13 z2 z3 z4, x = nI i → (∀ m, m < i → f13 m = nI (laidQ q m 0)) → G 2 [some (.ref 0), some (.int x), z2, z3, z4] [] (eM (aU a 13 f13) s)) ?_ ?_ 0 (Nat.zero_le _) _ (a 13) _ _ _ rfl (fun m hm => absurd hm (Nat.not_lt_zero m))
  · intro x f13 z2 z3 z4 hx h13
    subst hx
    refine xwp_go g1 [2, 30] 100 _ _ _ _ ?_
    refine And.intro (fun _ => second f13 h13 _ _ _ _) (fun h => ?_)
    rw [ep] at h
    exact absurd (nI_le (Nat.le_refl _) (by omega)) h
  · intro i hi ih x f13 z2 z3 z4 hx h13
    subst hx
    refine xwp_go g1 [2, 30] 100 _ _ _ _ ?_
    refine And.intro (fun h => ?_) (fun _ => ?_)
    · rw [ep] at h
      exact absurd h (nI_ge hi (by omega))
    refine xcM (G := G) g3 (m_laid d (a := aU a 13 f13) hr (set := i) (over := 0) (by omega) (by decide)) ?_
    refine xwp_go g1 [2, 30] 100 _ _ _ _ ?_
    refine And.intro (vp_in_nI (by omega) (by decide)) ?_
    refine ih _ (upd f13 (nI i).toNatClampNeg (nI (laidQ q i 0))) _ _ _ (nI_1 i) (fun m hm => ?_)
    rw [nI_clamp (by omega), upd_at]
    by_cases e : m = i
    · rw [if_pos e, e]
    · rw [if_neg e]; exact h13 m (by omega)
def lowI (c v : Int32) : Int32 := if c < 0 then v else if c ≤ v then c else v
theorem m_lowers (d : Nat) (a : Nat → Nat → Int32) (s : Nat → Int32) {x : Nat} (hx : x < 16384) (v : Int32) : xCt xMs (d + 1) nX6_lowers [.ref 0, .int (nI x), .int v] (eM a s) (fun r w => r = none ∧ ∃ f, (∀ y, f y = if y = x then lowI (a 12 x) v else a 12 y) ∧ w = eM (aU a 12 f) s) := by
  have cl : (nI x).toNatClampNeg = x := nI_clamp (by omega)
  have hin : vp_in (nI x) 16384 := vp_in_nI hx (by decide)
  refine xV (M := mX6_lowers) rfl rfl rfl rfl rfl pX6_lowers rfl (fun G g1 g2 g3 => ?_)
  refine xwp_go g1 [] 100 _ _ _ _ ?_
  refine And.intro hin ?_
  refine And.intro (fun h => ?_) (fun h => ?_)
  · refine And.intro hin ?_
    refine xrv' (G := G) g2 rfl ⟨rfl, upd (a 12) (nI x).toNatClampNeg v, fun y => ?_, rfl⟩
    rw [cl, upd_at]
    rw [cl] at h
    unfold lowI
    rw [if_pos h]
  · refine And.intro hin ?_
    rw [cl] at h
    refine And.intro (fun h2 => ?_) (fun h2 => ?_) <;> rw [cl] at h2
    · refine xrv' (G := G) g2 rfl ⟨rfl, a 12, fun y => ?_, rfl⟩
      unfold lowI
      rw [if_neg h, if_pos h2]
      split
      · next e => rw [e]
      · rfl
    · refine And.intro hin ?_
      refine xrv' (G := G) g2 rfl ⟨rfl, upd (a 12) (nI x).toNatClampNeg v, fun y => ?_, rfl⟩
      rw [cl, upd_at]
      unfold lowI
      rw [if_neg h, if_neg h2]
