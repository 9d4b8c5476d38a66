/-! the class's Tour: leastCost; round -/
def stopC (q : LQ) : Nat := (stopsL q (q 6 1)).length
def arvQ (q : LQ) (F : Nat → Nat → Nat) (m s : Nat) : Nat := arvN (fun m => laidQ q m 0) (stopAt q) F m s (stopC q)
def tabF (q : LQ) : Nat → Nat → Nat → Nat
  | 0 => fun _ s => pop s
  | k + 1 => fun m s => if m = k + 1 then (if k + 1 < 2 ^ stopC q - 1 then wkN (arvQ q (tabF q k) (k + 1)) (q 6 0) s else arvQ q (tabF q k) (k + 1) s) else tabF q k m s
def tourC (q : LQ) : Nat := lstV (tabF q (2 ^ stopC q - 1) (2 ^ stopC q - 1)) (2 ^ q 6 0)
theorem gA_mem : ∀ {l : List Nat} {t : Nat}, t < l.length → gA l t ∈ l
  | [], t, h => absurd h (Nat.not_lt_zero t)
  | _ :: _, 0, _ => List.mem_cons_self
  | _ :: l, t + 1, h => List.mem_cons_of_mem _ (gA_mem (l := l) (t := t) (by have h : t + 1 < l.length + 1 := h; omega))
theorem t_leastCost (d : Nat) {q : LQ} {a : Nat → Nat → Int32} {s : Nat → Int32} (hr : relS q a s) (u : Nat → Nat → Int32) : xCt xMs (d + 4) nX4_leastCost [.ref 0, .ref 4] (eU u a s) (fun v w => v = some (.int (if stopC q < 1 ∨ 4 < stopC q then -1 else nI (tourC q))) ∧ ∃ u', w = eU u' a s) := by
  have h8 := hr.1.1
  have h6 := hr.1.2.1
  have hl := lt256 hr.1
  have hc6 : stopC q ≤ 6 := Nat.le_trans (stops_le q (q 6 1)) h6
  have e0 : (if (8 : Int32) < s 0 then 8 else s 0) = nI (q 6 0) := by
    rw [hr.2.2.2.1, if_neg (show ¬ (8 : Int32) < nI (q 6 0) from nI_nlt (a := 8) h8 (by decide))]
  have ep : (1 : Int32) <<< (nI (q 6 0) &&& 31) = nI (2 ^ q 6 0) := nI_pow (by omega)
  refine xV (M := mX4_leastCost) rfl rfl rfl rfl rfl pX4_leastCost rfl (fun G g1 g2 g3 => ?_)
  refine xwp_go g1 [10] 100 _ _ _ _ ?_
  show G 10 [some (.ref 0), some (.ref 4), some (.int (if (8 : Int32) < s 0 then 8 else s 0)), none, none, none] [] (eU u a s)
  rw [e0]
  refine xwp_go g1 [] 100 _ _ _ _ ?_
  refine xcall (G := G) g3 pU (t_layAll d hr u) (fun v wc' hp _ => ?_)
  obtain ⟨rfl, u1, hu1, rfl⟩ := hp
  rw [xputU]
  refine xwp_go g1 [] 100 _ _ _ _ ?_
  refine xcall (G := G) g3 pU (as := [.ref 0, .ref 4, .int ((1 : Int32) <<< (nI (q 6 0) &&& 31))]) (by rw [ep]; exact t_findStops d hr (u := aU u 1 u1) hu1) (fun v wc' hp _ => ?_)
  obtain ⟨rfl, u0, hu0, rfl⟩ := hp
  rw [xputU]
  have hA : ∀ m, m < 2 ^ q 6 0 → aU (aU u 1 u1) 0 u0 1 m = nI (laidQ q m 0) := hu1
  have hB : ∀ t, t < 4 → t < stopC q → aU (aU u 1 u1) 0 u0 0 t = nI (stopAt q t) := hu0
  rw [show (stopsL q (q 6 1)).length = stopC q from rfl]
  generalize aU (aU u 1 u1) 0 u0 = u9 at hA hB
  have hsh : ∀ m, m < 2 ^ q 6 0 → u9 1 m = nI (laidQ q m 0) ∧ laidQ q m 0 < 65536 := fun m hm => ⟨hA m hm, laidQ_lt hr.1 m 0⟩
  refine xwp_go g1 [44] 100 _ _ _ _ ?_
  refine And.intro (fun h => ?_) (fun h => ?_) <;> rw [show (1 : Int32) = nI 1 from rfl, nI_ltI (by omega) (by decide)] at h
  · rw [if_pos (Or.inl h)] at g2
    exact xri' (G := G) g2 rfl ⟨rfl, u9, rfl⟩
  refine And.intro (fun h4 => ?_) (fun h4 => ?_) <;> rw [show (4 : Int32) = nI 4 from rfl, nI_leI (by omega) (by decide)] at h4
  · rw [if_neg (by omega)] at g2
    have hst : ∀ t, t < stopC q → u9 0 t = nI (stopAt q t) ∧ stopAt q t < 65536 := fun t ht => ⟨hB t (by omega) ht, stops_lt hr.1 (q 6 1) (Nat.le_refl _) _ (gA_mem ht)⟩
    have hpc : 2 ^ stopC q ≤ 2 ^ 4 := Nat.pow_le_pow_right (by decide) h4
    have hpos := Nat.two_pow_pos (stopC q)
    have eall : (1 : Int32) <<< (nI (stopC q) &&& 31) - 1 = nI (2 ^ stopC q - 1) := by rw [nI_pow (by omega), show (1 : Int32) = nI 1 from rfl, pk_sub hpos]
    show G 44 [some (.ref 0), some (.ref 4), some (.int (nI (q 6 0))), some (.int (nI (stopC q))), some (.int ((1 : Int32) <<< (nI (stopC q) &&& 31) - 1)), none] [] (eU u9 a s)
    rw [eall]
    have rest : ∀ u2 z5, knowR u2 (tabF q 0) (2 ^ q 6 0) 1 → G 73 [some (.ref 0), some (.ref 4), some (.int (nI (q 6 0))), some (.int (nI (stopC q))), some (.int (nI (2 ^ stopC q - 1))), z5] [] (eU (aU u9 2 u2) a s) := by
      intro u2 z5 hk0
      refine xwp_go g1 [76] 100 _ _ _ _ ?_
      refine up (k := 2 ^ stopC q - 1) (P := fun k => ∀ x u2, x = nI (k + 1) → knowR u2 (tabF q k) (2 ^ q 6 0) (k + 1) → G 76 [some (.ref 0), some (.ref 4), some (.int (nI (q 6 0))), some (.int (nI (stopC q))), some (.int (nI (2 ^ stopC q - 1))), some (.int x)] [] (eU (aU u9 2 u2) a s)) ?_ ?_ 0 (Nat.zero_le _) _ u2 rfl hk0
      · intro x u2 hx hk
        subst hx
        refine xwp_go g1 [76] 100 _ _ _ _ ?_
        refine And.intro (fun _ => ?_) (fun h => absurd (nI_lt (by omega) (by omega)) h)
        refine xcallR (G := G) g3 pR (agr2 rfl ep (t_leastSteps (u := aU u9 2 u2) (f := tabF q (2 ^ stopC q - 1) (2 ^ stopC q - 1)) (d + 2) (M := 2 ^ q 6 0) (dn := 2 ^ stopC q - 1) (by omega) (by omega) (fun s hs => hk _ (by omega) s hs))) ?_
        refine xwp_go g1 [76] 100 _ _ _ _ ?_
        exact xri' (G := G) g2 rfl ⟨rfl, aU u9 2 u2, rfl⟩
      · intro k hk ih x u2 hx hkn
        subst hx
        refine xwp_go g1 [76] 100 _ _ _ _ ?_
        refine And.intro (fun h => absurd h (nI_nlt (by omega) (by omega))) (fun _ => ?_)
        refine xcall (G := G) g3 pR (agr3 rfl rfl ep (t_arrive (u := aU u9 2 u2) (sh := fun m => laidQ q m 0) (st := stopAt q) (F := tabF q k) (d + 2) (M := 2 ^ q 6 0) (c := stopC q) (dn := k + 1) (by omega) h4 (by omega) hsh hst hkn)) (fun v wc' hp _ => ?_)
        obtain ⟨rfl, u3, h1, h2, rfl⟩ := hp
        have old : ∀ (u4 : Nat → Int32), (∀ m, m < k + 1 → ∀ s, s < 2 ^ q 6 0 → u4 (256 * m + s) = u2 (256 * m + s)) → (∀ s, s < 2 ^ q 6 0 → u4 (256 * (k + 1) + s) = nI (tabF q (k + 1) (k + 1) s) ∧ tabF q (k + 1) (k + 1) s ≤ 1000) → knowR u4 (tabF q (k + 1)) (2 ^ q 6 0) (k + 1 + 1) := by
          intro u4 q1 q2 m hm s hs
          by_cases e : m = k + 1
          · rw [e]; exact q2 s hs
          · have et : tabF q (k + 1) m s = tabF q k m s := by
              show (if m = k + 1 then _ else tabF q k m s) = _
              rw [if_neg e]
            rw [et, q1 m (by omega) s hs]
            exact hkn m (by omega) s hs
        show G 93 [some (.ref 0), some (.ref 4), some (.int (nI (q 6 0))), some (.int (nI (stopC q))), some (.int (nI (2 ^ stopC q - 1))), some (.int (nI (k + 1)))] [] (eU (aU u9 2 u3) a s)
        have enew : ∀ s, tabF q (k + 1) (k + 1) s = if k + 1 < 2 ^ stopC q - 1 then wkN (arvQ q (tabF q k) (k + 1)) (q 6 0) s else arvQ q (tabF q k) (k + 1) s := by
          intro s
          show (if k + 1 = k + 1 then _ else _) = _
          rw [if_pos rfl]
        refine xwp_go g1 [76] 100 _ _ _ _ ?_
        refine And.intro (fun h => ?_) (fun h => ?_) <;> rw [nI_leI (by omega) (by omega)] at h
        · refine ih _ u3 (nI_1 _) (old u3 h1 (fun s hs => ?_))
          rw [enew, if_neg (by omega)]
          exact ⟨h2 s hs, arvN_le _ _ _ _ _ _⟩
        · refine xcall (G := G) g3 pR (t_walk (u := aU u9 2 u3) (f := arvQ q (tabF q k) (k + 1)) (d + 2) (n := q 6 0) (dn := k + 1) h8 (by omega) (fun s hs => ⟨h2 s hs, arvN_le _ _ _ _ _ _⟩)) (fun v wc' hp _ => ?_)
          obtain ⟨rfl, u4, w1, w2, rfl⟩ := hp
          show G 107 [some (.ref 0), some (.ref 4), some (.int (nI (q 6 0))), some (.int (nI (stopC q))), some (.int (nI (2 ^ stopC q - 1))), some (.int (nI (k + 1)))] [] (eU (aU u9 2 u4) a s)
          refine xwp_go g1 [76] 100 _ _ _ _ ?_
          refine ih _ u4 (nI_1 _) (old u4 (fun m hm s hs => ?_) (fun s hs => ?_))
          · rw [w1 _ (by omega)]
            exact h1 m hm s hs
          · rw [enew, if_pos (by omega)]
            exact ⟨w2 s hs, Nat.le_trans (wkN_le _) (arvN_le _ _ _ _ _ _)⟩
    refine xwp_go g1 [47] 100 _ _ _ _ ?_
    refine up (k := 2 ^ q 6 0) (P := fun i => ∀ x u2, x = nI i → (∀ s, s < i → u2 s = nI (pop s)) → G 47 [some (.ref 0), some (.ref 4), some (.int (nI (q 6 0))), some (.int (nI (stopC q))), some (.int (nI (2 ^ stopC q - 1))), some (.int x)] [] (eU (aU u9 2 u2) a s)) ?_ ?_ 0 (Nat.zero_le _) _ (u9 2) rfl (fun s hs => absurd hs (Nat.not_lt_zero s))
    · intro x u2 hx h2
      subst hx
      refine xwp_go g1 [47, 73] 100 _ _ _ _ ?_
      refine And.intro (fun _ => ?_) (fun h => ?_)
      · refine rest u2 _ (fun m hm s hs => ?_)
        obtain rfl : m = 0 := by omega
        rw [Nat.mul_zero, Nat.zero_add]
        have := pop_le s
        exact ⟨h2 s hs, by show pop s ≤ 1000; omega⟩
      · rw [ep] at h
        exact absurd (nI_le (Nat.le_refl _) (by omega)) h
    · intro i hi ih x u2 hx h2
      subst hx
      refine xwp_go g1 [47, 73] 100 _ _ _ _ ?_
      refine And.intro (fun h => ?_) (fun _ => ?_)
      · rw [ep] at h
        exact absurd h (nI_ge hi (by omega))
      refine xcallR (G := G) g3 [] (c_bitCount (d + 2) [] (p := i) (by omega)) ?_
      refine xwp_go g1 [47, 73] 100 _ _ _ _ ?_
      refine And.intro (vp_in_nI (by omega) (by decide)) ?_
      refine ih _ (upd u2 (nI i).toNatClampNeg (nI (pop i))) (nI_1 i) (fun s hs => ?_)
      rw [nI_clamp (by omega), upd_at]
      by_cases e : s = i
      · rw [if_pos e, e]
      · rw [if_neg e]; exact h2 s (by omega)
  · rw [if_pos (by omega)] at g2
    exact xri' (G := G) g2 rfl ⟨rfl, u9, rfl⟩
def spRound (S : SG) (r : Int32) : Int32 × SG := (r, S)
abbrev pUN : List Nat := [29, 30, 31, 32, 1, 2, 3, 4, 5, 6, 7]
theorem xsubUN (A : Nat → Nat → Int32) (N : Nat → Int32) : xsub pUN (eU (offA A 23) A N) (eX A N) := rfl
theorem xputUN (A b : Nat → Nat → Int32) (N : Nat → Int32) : xput pUN pUN (eU b A N) (eX A N) = eX (ptA A 23 3 b) N := rfl
theorem x_round (d : Nat) {S : SG} {A : Nat → Nat → Int32} {N : Nat → Int32} (hr : relX S A N) : xCt xMs (d + 5) nX5_round [.ref 0] (eX A N) (pXs (if stopC S.1 < 1 ∨ 4 < stopC S.1 then -9 else nI (tourC S.1), S)) := by
  refine xV (M := mX5_round) rfl rfl rfl rfl rfl pX5_round rfl (fun G g1 g2 g3 => ?_)
  refine xwp_go g1 [] 100 _ _ _ _ ?_
  refine xcall (G := G) g3 pUN (t_leastCost d hr.1 (offA A 23)) (fun v wc' hp _ => ?_) rfl rfl rfl rfl rfl (xsubUN A N)
  obtain ⟨rfl, u', rfl⟩ := hp
  rw [xputUN]
  have hX : relX S (ptA A 23 3 u') N := relX_same hr ⟨fun r _ h => ptA_out (by omega), fun _ _ _ => rfl⟩
  have hle : tourC S.1 ≤ 1000 := lstV_le _ _
  by_cases h : stopC S.1 < 1 ∨ 4 < stopC S.1
  · rw [if_pos h] at g2
    rw [if_pos h]
    refine xwp_go g1 [] 100 _ _ _ _ ?_
    refine And.intro (fun h => absurd h (by decide)) (fun _ => ?_)
    exact xri' (G := G) g2 rfl ⟨rfl, _, _, hX, rfl⟩
  · rw [if_neg h] at g2
    rw [if_neg h]
    refine xwp_go g1 [] 100 _ _ _ _ ?_
    refine And.intro (fun _ => ?_) (fun h => absurd (nI_pos' (by omega)) h)
    exact xri' (G := G) g2 rfl ⟨rfl, _, _, hX, rfl⟩
