/-! the class's Lantern, second half -/
/-- ends: an int, nothing, with a lantern that is q' -/
def xRetP (r : Int32) (q' : LQ) (s : Nat → Int32) : xPost := fun v w => v = some (.int r) ∧ ∃ a', relS q' a' s ∧ w = eL a' s
def xRetQ (q' : LQ) (s : Nat → Int32) : xPost := fun v w => v = none ∧ ∃ a', relS q' a' s ∧ w = eL a' s
theorem c_laid (d : Nat) {q : LQ} {a : Nat → Nat → Int32} {s : Nat → Int32} (hr : relS q a s) {set over : Nat} (hs : set < 2 ^ 31) (ho : over < 2 ^ 31) : xCt xMs (d + 3) nX1_laid [.ref 0, .int (nI set), .int (nI over)] (eL a s) (xRet (nI (laidQ q set over)) (eL a s)) := by
  have hr' := hr
  obtain ⟨hok, hA, hW, h0, h1, h2⟩ := hr
  have h6 := hok.1
  refine xV (M := mX1_laid) rfl rfl rfl rfl rfl pX1_laid rfl (fun G g1 g2 g3 => ?_)
  refine xwp_go g1 [5] 100 _ _ _ _ ?_
  refine up (k := q 6 0) (P := fun i => ∀ x y z, x = nI i → y = nI (laidL q set over i) → G 5 [some (.ref 0), some (.int (nI set)), some (.int (nI over)), some (.int y), some (.int x), z] [] (eL a s)) ?_ ?_ 0 (Nat.zero_le _) _ _ _ rfl rfl
  · intro x y z hx hy
    subst hx; subst hy
    refine xwp_go g1 [5] 100 _ _ _ _ ?_
    refine And.intro (fun h => ?_) (fun h => ?_)
    · exact xri (G := G) g2 rfl rfl rfl
    · rw [h0] at h
      exact absurd (nI_le (Nat.le_refl _) (by omega)) h
  · intro i hi ih x y z hx hy
    subst hx; subst hy
    refine xwp_go g1 [5] 100 _ _ _ _ ?_
    refine And.intro (fun h => ?_) (fun h => ?_)
    · rw [h0] at h
      exact absurd h (nI_ge hi (by omega))
    · refine And.intro (fun h => ?_) (fun h => ?_)
      · rw [nI_bit0 (by omega) hs, Bool.not_eq_false] at h
        refine xcallR (G := G) g3 [0, 1, 2, 3, 4, 5, 6] (c_onSlide d hr' hi) ?_
        refine xwp_go g1 [5] 100 _ _ _ _ ?_
        refine And.intro (fun h' => ?_) (fun h' => ?_)
        · rw [nI_bit0 (by omega) ho] at h'
          refine ih _ _ _ (nI_1 i) ?_
          rw [fa_or, laidL_s h, if_neg (by rw [h']; decide)]
        · rw [nI_bit0 (by omega) ho, Bool.not_eq_false] at h'
          refine xcallR (G := G) g3 [] (c_mirrored (d + 1) [] (onQ_lt hok hi)) ?_
          refine xwp_go g1 [5] 100 _ _ _ _ ?_
          refine ih _ _ _ (nI_1 i) ?_
          rw [fa_or, laidL_s h, if_pos h']
      · rw [nI_bit0 (by omega) hs] at h
        exact ih _ _ _ (nI_1 i) (by rw [laidL_n h])
theorem c_told (d : Nat) {q : LQ} {a : Nat → Nat → Int32} {s : Nat → Int32} (hr : relS q a s) {i w : Nat} (hi : i < q 6 0) (hw : w ≤ 5) : xCt xMs (d + 3) nX1_told [.ref 0, .int (nI i), .int (nI w)] (eL a s) (xRet (nI (toldQ q i w)) (eL a s)) := by
  have h6 := hr.1.1
  obtain ⟨k0, k1, k2, k3, k4⟩ := hr.2.1 i hi
  have cl : (nI i).toNatClampNeg = i := nI_clamp (by omega)
  refine xV (M := mX1_told) rfl rfl rfl rfl rfl pX1_told rfl (fun G g1 g2 g3 => ?_)
  refine xwp_go g1 [] 100 _ _ _ _ ?_
  refine xcallR (G := G) g3 [0, 1, 2, 3, 4, 5, 6] (c_has (d + 1) hr (nI i)) ?_
  rw [hasB_in (by omega) hi]
  refine xwp_go g1 [] 100 _ _ _ _ ?_
  refine And.intro (fun h => ?_) (fun h => absurd h (by decide))
  have eq : ∀ {c : Nat}, c < 6 → nI w = nI c → w = c := fun hc h => (nI_eq (by omega) (by omega)).mp h
  have ne : ∀ {c : Nat}, c < 6 → ¬ nI w = nI c → w ≠ c := fun hc h e => h (by rw [e])
  refine And.intro (fun h => ?_) (fun h1 => ?_)
  · refine And.intro (vp_in_nI (by omega) (by decide)) ?_
    exact xri (G := G) g2 rfl (by rw [cl, k0, eq (c := 0) (by decide) h]; rfl) rfl
  refine And.intro (fun h => ?_) (fun h2 => ?_)
  · refine And.intro (vp_in_nI (by omega) (by decide)) ?_
    exact xri (G := G) g2 rfl (by rw [cl, k1, eq (c := 1) (by decide) h]; rfl) rfl
  refine And.intro (fun h => ?_) (fun h3 => ?_)
  · refine And.intro (vp_in_nI (by omega) (by decide)) ?_
    exact xri (G := G) g2 rfl (by rw [cl, k2, eq (c := 2) (by decide) h]; rfl) rfl
  refine And.intro (fun h => ?_) (fun h4 => ?_)
  · refine xcallR (G := G) g3 [0, 1, 2, 3, 4, 5, 6] (c_onSlide d hr hi) ?_
    refine xwp_go g1 [] 100 _ _ _ _ ?_
    exact xri (G := G) g2 rfl (by rw [eq (c := 3) (by decide) h]; rfl) rfl
  refine And.intro (fun h => ?_) (fun h5 => ?_)
  · refine And.intro (vp_in_nI (by omega) (by decide)) ?_
    exact xri (G := G) g2 rfl (by rw [cl, k3, eq (c := 4) (by decide) h]; rfl) rfl
  · refine And.intro (vp_in_nI (by omega) (by decide)) ?_
    have := ne (c := 0) (by decide) h1
    have := ne (c := 1) (by decide) h2
    have := ne (c := 2) (by decide) h3
    have := ne (c := 3) (by decide) h4
    have := ne (c := 4) (by decide) h5
    exact xri (G := G) g2 rfl (by rw [cl, k4, show w = 5 by omega]; rfl) rfl
theorem c_repriced (d : Nat) {q : LQ} {a : Nat → Nat → Int32} {s : Nat → Int32} (hr : relS q a s) {i v : Nat} (hi : i < q 6 0) (hv : v ≤ 99) : xCt xMs (d + 2) nX1_repriced [.ref 0, .int (nI i), .int (nI v)] (eL a s) (xRetP (nI (q 3 i)) (priceQ q i v) s) := by
  have h6 := hr.1.1
  obtain ⟨k0, k1, k2, k3, k4⟩ := hr.2.1 i hi
  have cl : (nI i).toNatClampNeg = i := nI_clamp (by omega)
  refine xV (M := mX1_repriced) rfl rfl rfl rfl rfl pX1_repriced rfl (fun G g1 g2 g3 => ?_)
  refine xwp_go g1 [] 100 _ _ _ _ ?_
  refine xcallR (G := G) g3 [0, 1, 2, 3, 4, 5, 6] (c_has d hr (nI i)) ?_
  rw [hasB_in (by omega) hi]
  refine xwp_go g1 [] 100 _ _ _ _ ?_
  refine And.intro (fun h => ?_) (fun h => absurd h (by decide))
  refine And.intro (vp_in_nI (by omega) (by decide)) ?_
  refine And.intro (vp_in_nI (by omega) (by decide)) ?_
  refine xri' (G := G) g2 rfl ⟨by rw [cl, k3], aU a 3 (upd (a 3) (nI i).toNatClampNeg (nI v)), rel_price hr hi hv rfl rfl rfl rfl rfl (fun j => ?_), rfl⟩
  show upd (a 3) (nI i).toNatClampNeg (nI v) j = _
  rw [cl]; rfl
theorem c_wear (d : Nat) {q : LQ} {a : Nat → Nat → Int32} {s : Nat → Int32} (hr : relS q a s) {i : Nat} (hi : i < q 6 0) : xCt xMs (d + 1) nX1_wear [.ref 0, .int (nI i)] (eL a s) (xRetQ (wearQ q i) s) := by
  have hr' := hr
  obtain ⟨hok, hA, hW, h0, h1, h2⟩ := hr
  have h6 := hok.1
  obtain ⟨k0, k1, k2, k3, k4⟩ := hA i hi
  obtain ⟨b0, b1, b2, b3, b4⟩ := hok.2.2.2.2.1 i hi
  have p1 := hok.2.2.1
  have p9 := hok.2.2.2.1
  have cl : (nI i).toNatClampNeg = i := nI_clamp (by omega)
  refine xV (M := mX1_wear) rfl rfl rfl rfl rfl pX1_wear rfl (fun G g1 g2 g3 => ?_)
  refine xwp_go g1 [] 100 _ _ _ _ ?_
  refine And.intro (vp_in_nI (by omega) (by decide)) ?_
  refine And.intro (vp_in_nI (by omega) (by decide)) ?_
  have hu := useN_le (q 4 i)
  have eu : (if (99 : Int32) < a 4 (nI i).toNatClampNeg + 1 then (99 : Int32) else a 4 (nI i).toNatClampNeg + 1) = nI (useN (q 4 i)) := by
    rw [cl, k4, nI_1, show (99 : Int32) = nI 99 from rfl]
    unfold useN
    by_cases h : q 4 i < 99
    · rw [if_neg (nI_nlt (by omega) (by omega)), if_pos h]
    · rw [if_pos (nI_lt (by omega) (by omega)), if_neg h]
  rw [eu]
  refine And.intro (fun h => ?_) (fun h => ?_)
  · rw [h2] at h
    exact absurd h (nI_nle (by omega) (by omega))
  refine And.intro (by rw [h2]; exact nI_ne0 (by omega) (by omega)) ?_
  have e4 : ∀ j, upd (a 4) (nI i).toNatClampNeg (nI (useN (q 4 i))) j = if j = i then nI (useN (q 4 i)) else a 4 j := fun j => by rw [cl]; rfl
  have hm : useN (q 4 i) % q 6 2 < 2 ^ 31 := Nat.lt_of_le_of_lt (Nat.mod_le _ _) (by omega)
  refine And.intro (fun h => ?_) (fun h => ?_) <;> rw [h2, pk_rem (by omega) (by omega) (by omega)] at h
  · have hne : ¬ useN (q 4 i) % q 6 2 = 0 := fun e => h (by rw [e]; rfl)
    refine xrv' (G := G) g2 rfl ⟨rfl, aU a 4 (upd (a 4) (nI i).toNatClampNeg (nI (useN (q 4 i)))), rel_wear hr' hi rfl rfl rfl rfl e4 (fun j => ?_), rfl⟩
    rw [if_neg hne]
    show a 2 j = _
    by_cases e : j = i
    · rw [if_pos e, e, k2]
    · rw [if_neg e]
  · have he : useN (q 4 i) % q 6 2 = 0 := (nI_eq hm (by decide)).mp h
    refine And.intro (vp_in_nI (by omega) (by decide)) ?_
    refine And.intro (by decide) ?_
    refine And.intro (vp_in_nI (by omega) (by decide)) ?_
    refine xrv' (G := G) g2 rfl ⟨rfl, aU (aU a 4 (upd (a 4) (nI i).toNatClampNeg (nI (useN (q 4 i))))) 2 (upd (a 2) (nI i).toNatClampNeg _), rel_wear hr' hi rfl rfl rfl rfl e4 (fun j => ?_), rfl⟩
    rw [if_pos he]
    show upd (a 2) (nI i).toNatClampNeg _ j = _
    rw [show (16 : Int32) = nI 16 from rfl, pk_rem (by omega) (by decide) (by decide), cl, k2, nI_pow (by omega), nI_andn]
    rfl
theorem c_projected (d : Nat) {q : LQ} {a : Nat → Nat → Int32} {s : Nat → Int32} (hr : relS q a s) {set : Nat} (hs : set < 2 ^ 31) : xCt xMs (d + 4) nX1_projected [.ref 0, .int (nI set)] (eL a s) (xRetP (nI (laidQ q set 0)) (projQ q set) s) := by
  have h6 := hr.1.1
  refine xV (M := mX1_projected) rfl rfl rfl rfl rfl pX1_projected rfl (fun G g1 g2 g3 => ?_)
  refine xwp_go g1 [9] 100 _ _ _ _ ?_
  refine xcallR (G := G) g3 [0, 1, 2, 3, 4, 5, 6] (c_laid d hr hs (show 0 < 2 ^ 31 by decide)) ?_
  refine xwp_go g1 [9] 100 _ _ _ _ ?_
  refine up (k := q 6 0) (P := fun i => ∀ x a1, x = nI i → relS (projL q set i) a1 s → G 9 [some (.ref 0), some (.int (nI set)), some (.int (nI (laidQ q set 0))), some (.int x)] [] (eL a1 s)) ?_ ?_ 0 (Nat.zero_le _) _ _ rfl hr
  · intro x a1 hx h1
    subst hx
    refine xwp_go g1 [9] 100 _ _ _ _ ?_
    refine And.intro (fun h => ?_) (fun h => ?_)
    · exact xri' (G := G) g2 rfl ⟨rfl, a1, h1, rfl⟩
    · rw [hr.2.2.2.1] at h
      exact absurd (nI_le (Nat.le_refl _) (by omega)) h
  · intro i hi ih x a1 hx h1
    subst hx
    refine xwp_go g1 [9] 100 _ _ _ _ ?_
    refine And.intro (fun h => ?_) (fun h => ?_)
    · rw [hr.2.2.2.1] at h
      exact absurd h (nI_ge hi (by omega))
    · refine And.intro (fun h => ?_) (fun h => ?_)
      · rw [nI_bit0 (by omega) hs] at h
        exact ih _ _ (nI_1 i) (by rw [projL_n h]; exact h1)
      · rw [nI_bit0 (by omega) hs, Bool.not_eq_false] at h
        refine xcall (G := G) g3 [0, 1, 2, 3, 4, 5, 6] (c_wear (d + 2) h1 (by rw [projL_6]; exact hi)) (fun v wc' hp _ => ?_)
        obtain ⟨rfl, a2, h2, rfl⟩ := hp
        refine xwp_go g1 [9] 100 _ _ _ _ ?_
        exact ih _ a2 (nI_1 i) (by rw [projL_s h]; exact h2)
