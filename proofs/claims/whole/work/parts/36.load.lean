/-! the class's Search: load, and what it finds -/
def strO (q : LQ) (x : Option Nat) (al i : Nat) : Option Nat := if x = some i then none else layO (onQ q i) al
def turO (q : LQ) (x : Option Nat) (al i : Nat) : Option Nat := if x = some i then none else layO (mirN (onQ q i)) al
/-- what the last k of n slides can make dark -/
def rchL (f g : Nat → Option Nat) (n : Nat) : Nat → Nat
  | 0 => 0
  | k + 1 => rchL f g n k ||| dk (f (n - (k + 1))) ||| dk (g (n - (k + 1)))
def ldD (q : LQ) (x : Option Nat) (p al : Nat) : LD := (strO q x al, turO q x al, q 3, fun i => rchL (strO q x al) (turO q x al) (q 6 0) (q 6 0 - i), p)
theorem strO_lt {q : LQ} (h : okS q) {x : Option Nat} {al i : Nat} (hi : i < q 6 0) : ∀ y, strO q x al i = some y → y < 65536 := by
  intro y hy
  unfold strO at hy
  split at hy
  · cases hy
  · exact layO_lt (onQ_lt h hi) y hy
theorem turO_lt {q : LQ} {x : Option Nat} {al i : Nat} : ∀ y, turO q x al i = some y → y < 65536 := by
  intro y hy
  unfold turO at hy
  split at hy
  · cases hy
  · exact layO_lt (mirN_lt _) y hy
theorem rchL_lt {q : LQ} (h : okS q) {x : Option Nat} {al : Nat} : ∀ k, k ≤ q 6 0 → rchL (strO q x al) (turO q x al) (q 6 0) k < 65536
  | 0, _ => (show 0 < 65536 by decide)
  | k + 1, hk => Nat.or_lt_two_pow (n := 16) (Nat.or_lt_two_pow (n := 16) (rchL_lt h k (by omega)) (dk_lt (strO_lt h (by omega)))) (dk_lt turO_lt)
def eSL (b : Nat → Nat → Int32) (t : Nat → Int32) (a : Nat → Nat → Int32) (s : Nat → Int32) : xH := [.inr (2, [.ref 1, .ref 2, .ref 3, .ref 4, .int (t 0), .int (t 1), .int (t 2), .int (t 3), .int (t 4), .int (t 5), .int (t 6)]), .inl (8, b 0), .inl (8, b 1), .inl (8, b 2), .inl (9, b 3),
  .inr (0, [.ref 6, .ref 7, .ref 8, .ref 9, .ref 10, .ref 11, .int (s 0), .int (s 1), .int (s 2)]), .inl (8, a 0), .inl (8, a 1), .inl (8, a 2), .inl (8, a 3), .inl (8, a 4), .inl (6, a 5)]
abbrev pSL : List Nat := [0, 1, 2, 3, 4, 5, 6, 7, 8, 9, 10, 11]
abbrev pSl : List Nat := [5, 6, 7, 8, 9, 10, 11]
theorem xsubSL (b : Nat → Nat → Int32) (t : Nat → Int32) (a : Nat → Nat → Int32) (s : Nat → Int32) : xsub pS (eS b t) (eSL b t a s) := rfl
theorem xputSLS (b b' : Nat → Nat → Int32) (t t' : Nat → Int32) (a : Nat → Nat → Int32) (s : Nat → Int32) : xput pS pS (eS b' t') (eSL b t a s) = eSL b' t' a s := rfl
theorem xputSL (b b' : Nat → Nat → Int32) (t t' : Nat → Int32) (a a' : Nat → Nat → Int32) (s s' : Nat → Int32) : xput pSL pSL (eSL b' t' a' s') (eSL b t a s) = eSL b' t' a' s' := rfl
/-- which slide is left out -/
def wOut (q : LQ) (w : Int32) (x : Option Nat) : Prop := (w = -1 ∧ x = none) ∨ ∃ i, i < q 6 0 ∧ w = nI i ∧ x = some i
theorem wOut_eq {q : LQ} (h8 : q 6 0 ≤ 8) {w : Int32} {x : Option Nat} (h : wOut q w x) {m : Nat} (hm : m < 8) : nI m = w ↔ x = some m := by
  rcases h with ⟨rfl, rfl⟩ | ⟨i, hi, rfl, rfl⟩
  · constructor
    · intro e
      have := nI_pos (n := m) (by omega)
      rw [e] at this
      exact absurd (by decide) this
    · intro e; cases e
  · rw [nI_eq (by omega) (by omega)]
    constructor
    · intro e; rw [e]
    · intro e; cases e; rfl
theorem t_load (d : Nat) {q : LQ} {a : Nat → Nat → Int32} {s : Nat → Int32} (hr : relS q a s) (b : Nat → Nat → Int32) (t : Nat → Int32) {w : Int32} {x : Option Nat} (hw : wOut q w x) {p al : Nat} (hp : p < 65536) (hal : al < 65536) : xCt xMs (d + 3) nX3_load [.ref 0, .ref 5, .int w, .int (nI p), .int (nI al)] (eSL b t a s) (fun v z => v = none ∧ ∃ b' t', ldS (ldD q x p al) (q 6 0) b' t' ∧ z = eSL b' t' a s) := by
  have h8 := hr.1.1
  have h0 := hr.2.2.2.1
  have e0 : (if (8 : Int32) < s 0 then 8 else s 0) = nI (q 6 0) := by
    rw [h0, if_neg (show ¬ (8 : Int32) < nI (q 6 0) from nI_nlt (a := 8) h8 (by decide))]
  refine xV (M := mX3_load) rfl rfl rfl rfl rfl pX3_load rfl (fun G g1 g2 g3 => ?_)
  refine xwp_go g1 [18] 100 _ _ _ _ ?_
  show G 18 [some (.ref 0), some (.ref 5), some (.int w), some (.int (nI p)), some (.int (nI al)), none, none] [] (eSL b (sU (sU t 1 (nI p)) 0 (if (8 : Int32) < s 0 then 8 else s 0)) a s)
  rw [e0]
  generalize ht : sU (sU t 1 (nI p)) 0 (nI (q 6 0)) = t1
  have t0 : t1 0 = nI (q 6 0) := by rw [← ht]; rfl
  have t1' : t1 1 = nI p := by rw [← ht]; rfl
  refine xwp_go g1 [36] 100 _ _ _ _ ?_
  refine And.intro (by rw [t0]; exact vp_in_nI (by omega) (by decide)) ?_
  refine up (k := q 6 0) (P := fun j => ∀ u b1 z6, u = nI (q 6 0 - j) - 1 → (∀ i, q 6 0 - j ≤ i → i < q 6 0 → b1 0 i = encO (strO q x al i) ∧ b1 1 i = encO (turO q x al i) ∧ b1 2 i = nI (q 3 i)) → (∀ i, q 6 0 - j ≤ i → i ≤ q 6 0 → b1 3 i = nI (rchL (strO q x al) (turO q x al) (q 6 0) (q 6 0 - i))) → G 36 [some (.ref 0), some (.ref 5), some (.int w), some (.int (nI p)), some (.int (nI al)), some (.int u), z6] [] (eSL b1 t1 a s)) ?_ ?_ 0 (Nat.zero_le _) _ (aU b 3 (upd (b 3) (t1 0).toNatClampNeg 0)) _ (by rw [t0]; rfl) (fun i h1 h2 => by omega) (fun i h1 h2 => ?_)
  · intro u b1 z6 hu hb hR
    subst hu
    refine xwp_go g1 [36] 100 _ _ _ _ ?_
    refine And.intro (fun _ => ?_) (fun h => absurd (by rw [Nat.sub_self]; decide) h)
    refine xrv' (G := G) g2 rfl ⟨rfl, b1, t1, ⟨h8, hp, t0, t1', fun i hi => ?_, fun i hi => ?_⟩, rfl⟩
    · obtain ⟨c0, c1, c2⟩ := hb i (by omega) hi
      exact ⟨c0, c1, c2, strO_lt hr.1 hi, turO_lt, (hr.1.2.2.2.2.1 i hi).2.2.2.1⟩
    · exact ⟨hR i (by omega) hi, rchL_lt hr.1 _ (by omega)⟩
  · intro j hj ih u b1 z6 hu hb hR
    obtain ⟨m, hm⟩ : ∃ m, q 6 0 - j = m + 1 := ⟨q 6 0 - j - 1, by omega⟩
    have hmn : m < q 6 0 := by omega
    have eu : u = nI m := by rw [hu, hm]; exact pk_sub (a := m + 1) (b := 1) (by omega)
    subst eu
    have hon := onQ_lt hr.1 hmn
    have hin : vp_in (nI m) 8 := vp_in_nI (by omega) (by decide)
    have cl : (nI m).toNatClampNeg = m := nI_clamp (by omega)
    have em := wOut_eq h8 hw (m := m) (by omega)
    refine xwp_go g1 [36] 100 _ _ _ _ ?_
    refine And.intro (fun h => absurd h (nI_pos (by omega))) (fun _ => ?_)
    refine xcallR (G := G) g3 pSl (c_onSlide d hr hmn) ?_
    have fin : ∀ v0 v1, v0 = encO (strO q x al m) → v1 = encO (turO q x al m) → G 99 [some (.ref 0), some (.ref 5), some (.int w), some (.int (nI p)), some (.int (nI al)), some (.int (nI m)), some (.int (nI (onQ q m)))] [.int v1, .int (nI m), .ref 2] (eSL (aU b1 0 (upd (b1 0) (nI m).toNatClampNeg v0)) t1 a s) := by
      intro v0 v1 hv0 hv1
      refine xwp_go g1 [36] 100 _ _ _ _ ?_
      refine And.intro hin (And.intro hin (And.intro hin (And.intro ?_ (And.intro hin ?_))))
      · rw [nI_1]; exact vp_in_nI (by omega) (by decide)
      refine xcallR (G := G) g3 [] (t_dark (d + 1) [] (v := upd (b1 0) (nI m).toNatClampNeg v0 (nI m).toNatClampNeg) (o := strO q x al m) (strO_lt hr.1 hmn) (by rw [upd_at, if_pos rfl]; exact hv0)) ?_
      refine xwp_go g1 [36] 100 _ _ _ _ ?_
      refine And.intro hin ?_
      refine xcallR (G := G) g3 [] (t_dark (d + 1) [] (v := upd (b1 1) (nI m).toNatClampNeg v1 (nI m).toNatClampNeg) (o := turO q x al m) turO_lt (by rw [upd_at, if_pos rfl]; exact hv1)) ?_
      refine xwp_go g1 [36] 100 _ _ _ _ ?_
      refine And.intro (vp_in_nI (by omega) (by decide)) ?_
      refine ih _ (aU (aU (aU (aU b1 0 (upd (b1 0) (nI m).toNatClampNeg v0)) 1 (upd (b1 1) (nI m).toNatClampNeg v1)) 2 (upd (b1 2) (nI m).toNatClampNeg (a 3 (nI m).toNatClampNeg))) 3 (upd (b1 3) (nI m).toNatClampNeg (b1 3 (nI m + 1).toNatClampNeg ||| nI (dk (strO q x al m)) ||| nI (dk (turO q x al m))))) _ ?_ (fun i h1 h2 => ?_) (fun i h1 h2 => ?_)
      · rw [show q 6 0 - (j + 1) = m by omega, Int32.sub_eq_add_neg]
      · show upd (b1 0) (nI m).toNatClampNeg v0 i = _ ∧ upd (b1 1) (nI m).toNatClampNeg v1 i = _ ∧ upd (b1 2) (nI m).toNatClampNeg (a 3 (nI m).toNatClampNeg) i = _
        rw [cl, upd_at, upd_at, upd_at]
        by_cases e : i = m
        · rw [if_pos e, if_pos e, if_pos e, e]
          exact ⟨hv0, hv1, (hr.2.1 m hmn).2.2.2.1⟩
        · rw [if_neg e, if_neg e, if_neg e]
          exact hb i (by omega) h2
      · show upd (b1 3) (nI m).toNatClampNeg _ i = _
        rw [cl, upd_at]
        by_cases e : i = m
        · rw [if_pos e, nI_1, nI_clamp (by omega), hR (m + 1) (by omega) (by omega), fa_or, fa_or, e, show q 6 0 - m = (q 6 0 - (m + 1)) + 1 by omega]
          show _ = nI (rchL _ _ _ (q 6 0 - (m + 1)) ||| dk (strO q x al (q 6 0 - (q 6 0 - (m + 1) + 1))) ||| dk (turO q x al (q 6 0 - (q 6 0 - (m + 1) + 1))))
          rw [show q 6 0 - (q 6 0 - (m + 1) + 1) = m by omega]
        · rw [if_neg e]
          exact hR i (by omega) h2
    have mid : ∀ v0, v0 = encO (strO q x al m) → G 72 [some (.ref 0), some (.ref 5), some (.int w), some (.int (nI p)), some (.int (nI al)), some (.int (nI m)), some (.int (nI (onQ q m)))] [.int v0, .int (nI m), .ref 1] (eSL b1 t1 a s) := by
      intro v0 hv0
      refine xwp_go g1 [99] 100 _ _ _ _ ?_
      refine And.intro hin ?_
      refine And.intro (fun h => ?_) (fun h => ?_) <;> rw [em] at h
      · refine xcallR (G := G) g3 [] (c_mirrored (d + 1) [] hon) ?_
        refine xwp_go g1 [99] 100 _ _ _ _ ?_
        refine xcallR (G := G) g3 [] (t_usable (d + 1) [] (mirN_lt (onQ q m)) hal) ?_
        exact fin v0 _ hv0 (by unfold turO; rw [if_neg h])
      · exact fin v0 _ hv0 (by unfold turO; rw [if_pos h]; rfl)
    refine xwp_go g1 [72] 100 _ _ _ _ ?_
    refine And.intro (fun h => ?_) (fun h => ?_) <;> rw [em] at h
    · refine xcallR (G := G) g3 [] (t_usable (d + 1) [] hon hal) ?_
      exact mid _ (by unfold strO; rw [if_neg h])
    · exact mid _ (by unfold strO; rw [if_pos h]; rfl)
  · show upd (b 3) (t1 0).toNatClampNeg 0 i = _
    rw [t0, nI_clamp (by omega), upd_at, if_pos (by omega), show q 6 0 - i = 0 by omega]
    rfl
