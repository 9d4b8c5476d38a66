/-! fewest, cheapest, near, can, worth of the reference -/
def spFewest (S : SG) (p w : Int32) : Int32 × SG := if inB w 0 3 = false then rfs S (-2) else if ¬ bndI p 0 65535 = 0 then rfs S (bndI p 0 65535) else (fewI (findQ S.1 p.toNatClampNeg).2.2 w.toNatClampNeg, S)
def spCheapest (S : SG) (p : Int32) : Int32 × SG := if ¬ bndI p 0 65535 = 0 then rfs S (bndI p 0 65535) else (optI (findQ S.1 p.toNatClampNeg).2.1, S)
def spNear (S : SG) (p : Int32) : Int32 × SG := if ¬ bndI p 0 65535 = 0 then rfs S (bndI p 0 65535) else (nI (findQ S.1 p.toNatClampNeg).1, S)
theorem relM_s {S : SG} {a : Nat → Nat → Int32} {s s' : Nat → Int32} (h : relM S a s) (hs : ∀ r, r < 9 ∨ 15 ≤ r → s' r = s r) : relM S a s' := by
  obtain ⟨⟨q1, q2, q3, q4, q5, q6⟩, h2, h3, h4, h5, h6⟩ := h
  exact ⟨⟨q1, q2, q3, by rw [hs 0 (by omega)]; exact q4, by rw [hs 1 (by omega)]; exact q5, by rw [hs 2 (by omega)]; exact q6⟩, h2, by rw [hs 3 (by omega)]; exact h3, by rw [hs 15 (by omega)]; exact h4, by rw [hs 6 (by omega)]; exact h5, h6⟩
theorem m_cheapest (d : Nat) {S : SG} {a : Nat → Nat → Int32} {s : Nat → Int32} (hr : relM S a s) (p : Int32) : xCt xMs (d + 6) nX6_cheapest [.ref 0, .int p] (eM a s) (pMs (spCheapest S p)) := by
  refine xV (M := mX6_cheapest) rfl rfl rfl rfl rfl pX6_cheapest rfl (fun G g1 g2 g3 => ?_)
  unfold spCheapest at g2
  refine xwp_go g1 [] 100 _ _ _ _ ?_
  refine xcallR (G := G) g3 [] (m_bound (d + 4) [] p 0 65535) ?_
  refine xwp_go g1 [] 100 _ _ _ _ ?_
  refine And.intro (fun h => ?_) (fun h => ?_)
  · rw [if_neg (fun z => z h)] at g2
    obtain ⟨m, -, hm, rfl⟩ := bnd_0 (l := 0) (m := 65535) (by decide) (by decide) h
    rw [nI_clamp (by omega)] at g2
    refine xcMP (G := G) g3 (m_findShown d hr.1 (p := m) (by omega)) (fun v w hp => ⟨_, _, hp.2.choose_spec.2.2⟩) (fun v a' s' hpp => ?_)
    obtain ⟨rfl, s2, t1, t2, t3⟩ := hpp
    rw [t3]
    refine xwp_go g1 [] 100 _ _ _ _ ?_
    exact xri' (G := G) g2 rfl ⟨by rw [t1.2.1], a, s2, relM_s hr t2, rfl⟩
  · rw [if_pos h] at g2
    refine xcMW (G := G) g3 (m_no (d + 4) a s (bnd_k h).1 (bnd_k h).2) ?_
    refine xwp_go g1 [] 100 _ _ _ _ ?_
    exact xri' (G := G) g2 rfl ⟨rfl, _, s, relM_no hr, rfl⟩
theorem m_near (d : Nat) {S : SG} {a : Nat → Nat → Int32} {s : Nat → Int32} (hr : relM S a s) (p : Int32) : xCt xMs (d + 6) nX6_near [.ref 0, .int p] (eM a s) (pMs (spNear S p)) := by
  refine xV (M := mX6_near) rfl rfl rfl rfl rfl pX6_near rfl (fun G g1 g2 g3 => ?_)
  unfold spNear at g2
  refine xwp_go g1 [] 100 _ _ _ _ ?_
  refine xcallR (G := G) g3 [] (m_bound (d + 4) [] p 0 65535) ?_
  refine xwp_go g1 [] 100 _ _ _ _ ?_
  refine And.intro (fun h => ?_) (fun h => ?_)
  · rw [if_neg (fun z => z h)] at g2
    obtain ⟨m, -, hm, rfl⟩ := bnd_0 (l := 0) (m := 65535) (by decide) (by decide) h
    rw [nI_clamp (by omega)] at g2
    refine xcMP (G := G) g3 (m_findShown d hr.1 (p := m) (by omega)) (fun v w hp => ⟨_, _, hp.2.choose_spec.2.2⟩) (fun v a' s' hpp => ?_)
    obtain ⟨rfl, s2, t1, t2, t3⟩ := hpp
    rw [t3]
    refine xwp_go g1 [] 100 _ _ _ _ ?_
    exact xri' (G := G) g2 rfl ⟨by rw [t1.1], a, s2, relM_s hr t2, rfl⟩
  · rw [if_pos h] at g2
    refine xcMW (G := G) g3 (m_no (d + 4) a s (bnd_k h).1 (bnd_k h).2) ?_
    refine xwp_go g1 [] 100 _ _ _ _ ?_
    exact xri' (G := G) g2 rfl ⟨rfl, _, s, relM_no hr, rfl⟩
theorem m_fewest (d : Nat) {S : SG} {a : Nat → Nat → Int32} {s : Nat → Int32} (hr : relM S a s) (p w : Int32) : xCt xMs (d + 6) nX6_fewest [.ref 0, .int p, .int w] (eM a s) (pMs (spFewest S p w)) := by
  refine xV (M := mX6_fewest) rfl rfl rfl rfl rfl pX6_fewest rfl (fun G g1 g2 g3 => ?_)
  unfold spFewest at g2
  refine xwp_go g1 [] 100 _ _ _ _ ?_
  refine xcallR (G := G) g3 [] (m_isIn (d + 4) [] w 0 3) ?_
  refine xwp_go g1 [] 100 _ _ _ _ ?_
  refine And.intro (fun hw => ?_) (fun hw => ?_) <;> rw [bI_0] at hw
  · rw [if_neg hw] at g2
    obtain ⟨k, -, hk, rfl⟩ := inB_of (l := 0) (m := 3) (by decide) (by decide) (Bool.not_eq_false _ ▸ hw)
    refine xcallR (G := G) g3 [] (m_bound (d + 4) [] p 0 65535) ?_
    refine xwp_go g1 [] 100 _ _ _ _ ?_
    refine And.intro (fun h => ?_) (fun h => ?_)
    · rw [if_neg (fun z => z h)] at g2
      obtain ⟨m, -, hm, rfl⟩ := bnd_0 (l := 0) (m := 65535) (by decide) (by decide) h
      rw [nI_clamp (by omega), nI_clamp (by omega)] at g2
      refine xcMP (G := G) g3 (m_findShown d hr.1 (p := m) (by omega)) (fun v w hp => ⟨_, _, hp.2.choose_spec.2.2⟩) (fun v a' s' hpp => ?_)
      obtain ⟨rfl, s2, t1, t2, t3⟩ := hpp
      rw [t3]
      refine xwp_go g1 [] 100 _ _ _ _ ?_
      refine And.intro (fun h1 => ?_) (fun h1 => ?_) <;> rw [show (0 : Int32) = nI 0 from rfl, nI_eq (by omega) (by decide)] at h1
      · refine And.intro (fun h2 => ?_) (fun h2 => ?_) <;> rw [show (1 : Int32) = nI 1 from rfl, nI_eq (by omega) (by decide)] at h2
        · refine And.intro (fun h3 => ?_) (fun h3 => ?_) <;> rw [show (2 : Int32) = nI 2 from rfl, nI_eq (by omega) (by decide)] at h3
          · exact xri' (G := G) g2 rfl ⟨by rw [t1.2.2.2.2.2, show k = 3 by omega], a, s2, relM_s hr t2, rfl⟩
          · exact xri' (G := G) g2 rfl ⟨by rw [t1.2.2.2.2.1, h3], a, s2, relM_s hr t2, rfl⟩
        · exact xri' (G := G) g2 rfl ⟨by rw [t1.2.2.2.1, h2], a, s2, relM_s hr t2, rfl⟩
      · exact xri' (G := G) g2 rfl ⟨by rw [t1.2.2.1, h1], a, s2, relM_s hr t2, rfl⟩
    · rw [if_pos h] at g2
      refine xcMW (G := G) g3 (m_no (d + 4) a s (bnd_k h).1 (bnd_k h).2) ?_
      refine xwp_go g1 [] 100 _ _ _ _ ?_
      exact xri' (G := G) g2 rfl ⟨rfl, _, s, relM_no hr, rfl⟩
  · rw [if_pos hw] at g2
    refine xcMW (G := G) g3 (m_no (d + 4) a s (why := -2) (k := 2) (by decide) (by decide)) ?_
    refine xwp_go g1 [] 100 _ _ _ _ ?_
    exact xri' (G := G) g2 rfl ⟨rfl, _, s, relM_no (k := 2) hr, rfl⟩
/-- without a slide, or with all -/
def okx (x : Option Nat) (set : Nat) : Bool := match x with
  | none => true
  | some i => !set.testBit i
def hitE (q : LQ) (x : Option Nat) (p : Nat) (e : Nat × Nat) : Bool := okx x e.1 && (laidQ q e.1 e.2 == p)
def canN (q : LQ) (x : Option Nat) : Nat → Nat
  | 0 => 0
  | i + 1 => canN q x i ||| (if (allE (q 6 0)).any (hitE q x (q 5 i)) then 2 ^ i else 0)
theorem canN_tb (q : LQ) (x : Option Nat) : ∀ k j, (canN q x k).testBit j = (decide (j < k) && (allE (q 6 0)).any (hitE q x (q 5 j)))
  | 0, j => by simp [canN]
  | k + 1, j => by
    show (canN q x k ||| (if (allE (q 6 0)).any (hitE q x (q 5 k)) then 2 ^ k else 0)).testBit j = _
    rw [Nat.testBit_or, canN_tb q x k j]
    by_cases e : j = k
    · subst e
      cases h : (allE (q 6 0)).any (hitE q x (q 5 j)) <;> simp
    · have : (if (allE (q 6 0)).any (hitE q x (q 5 k)) = true then 2 ^ k else 0).testBit j = false := by
        split
        · rw [Nat.testBit_two_pow]; exact decide_eq_false (fun z => e z.symm)
        · exact Nat.zero_testBit j
      rw [this, Bool.or_false]
      congr 1
      exact decide_eq_decide.mpr (by omega)
theorem canN_lt (q : LQ) (x : Option Nat) (k : Nat) : canN q x k < 2 ^ k := Nat.lt_pow_two_of_testBit _ (fun i hi => by rw [canN_tb]; simp; omega)
/-- the bits that come of the pairs gone through -/
def isCan (q : LQ) (x : Option Nat) (V : List (Nat × Nat)) (y : Nat) : Prop := ∀ j, y.testBit j = (decide (j < q 6 1) && V.any (hitE q x (q 5 j)))
theorem m_canWithout (d : Nat) {q : LQ} {a : Nat → Nat → Int32} {s : Nat → Int32} (hr : relS q a s) {sl : Int32} {x : Option Nat} (hx : (sl = -1 ∧ x = none) ∨ ∃ i, i < q 6 0 ∧ sl = nI i ∧ x = some i) : xCt xMs (d + 4) nX6_canWithout [.ref 0, .int sl] (eM a s) (xRet (nI (canN q x (q 6 1))) (eM a s)) := by
  have h8 := hr.1.1
  have h6 := hr.1.2.1
  have hl := lt256 hr.1
  have h0 := hr.2.2.2.1
  have h1 := hr.2.2.2.2.1
  have hok := hr.1
  refine xV (M := mX6_canWithout) rfl rfl rfl rfl rfl pX6_canWithout rfl (fun G g1 g2 g3 => ?_)
  refine xwp_go g1 [4] 100 _ _ _ _ ?_
  refine up (k := 2 ^ q 6 0) (P := fun i => ∀ u y z4 z5 z6, u = nI i → isCan q x (preE i) y → G 4 [some (.ref 0), some (.int sl), some (.int (nI y)), some (.int u), z4, z5, z6] [] (eM a s)) ?_ ?_ 0 (Nat.zero_le _) _ 0 _ _ _ rfl (fun j => by rw [Nat.zero_testBit, show preE 0 = [] from rfl]; simp)
  · intro u y z4 z5 z6 hu hy
    subst hu
    refine xwp_go g1 [4] 100 _ _ _ _ ?_
    refine And.intro (fun _ => ?_) (fun h => ?_)
    · refine xri (G := G) g2 rfl ?_ rfl
      refine congrArg nI (Nat.eq_of_testBit_eq (fun j => ?_))
      rw [hy j, canN_tb]; rfl
    · rw [h0, nI_pow (by omega)] at h
      exact absurd (nI_le (Nat.le_refl _) (by omega)) h
  · intro i hi ih u y z4 z5 z6 hu hy
    subst hu
    have skip : okx x i = false → G 107 [some (.ref 0), some (.int sl), some (.int (nI y)), some (.int (nI i)), z4, z5, z6] [] (eM a s) := by
      intro hk
      refine xwp_go g1 [4] 100 _ _ _ _ ?_
      refine ih _ y _ _ _ (nI_1 i) (fun j => ?_)
      rw [hy j, preE_s, List.any_append]
      have : (rowE i (i + 1)).any (hitE q x (q 5 j)) = false := by
        rw [List.any_eq_false]
        intro e he
        unfold rowE at he
        obtain ⟨o, -, rfl⟩ := List.mem_map.mp he
        simp [hitE, hk]
      rw [this, Bool.or_false]
    have body : okx x i = true → G 30 [some (.ref 0), some (.int sl), some (.int (nI y)), some (.int (nI i)), z4, z5, z6] [] (eM a s) := by
      intro hk
      refine xwp_go g1 [33] 100 _ _ _ _ ?_
      refine up (k := i + 1) (P := fun o => ∀ u y z5 z6, u = nI o → isCan q x (preE i ++ rowE i o) y → G 33 [some (.ref 0), some (.int sl), some (.int (nI y)), some (.int (nI i)), some (.int u), z5, z6] [] (eM a s)) ?_ ?_ 0 (Nat.zero_le _) _ y _ _ rfl (fun j => by rw [show rowE i 0 = [] from rfl, List.append_nil]; exact hy j)
      · intro u y z5 z6 hu hy
        subst hu
        refine xwp_go g1 [4, 33] 100 _ _ _ _ ?_
        refine And.intro (fun _ => ?_) (fun h => absurd (nI_lt (Nat.lt_succ_self i) (by omega)) h)
        exact ih _ y _ _ _ (nI_1 i) (by rw [preE_s]; exact hy)
      · intro o ho iho u y z5 z6 hu hy
        subst hu
        refine xwp_go g1 [4, 33] 100 _ _ _ _ ?_
        refine And.intro (fun h => absurd h (nI_nlt (by omega) (by omega))) (fun _ => ?_)
        have hlt : o ^^^ (o &&& i) < 256 := Nat.xor_lt_two_pow (n := 8) (show o < 2 ^ 8 by omega) (Nat.lt_of_le_of_lt Nat.and_le_left (show o < 2 ^ 8 by omega))
        refine And.intro (fun h => ?_) (fun h => ?_) <;> rw [nI_andn, show (0 : Int32) = nI 0 from rfl, nI_eq (by omega) (by decide)] at h
        · refine xcM (G := G) g3 (m_laid d hr (set := i) (over := o) (by omega) (by omega)) ?_
          have hla := laidQ_lt hok i o
          refine xwp_go g1 [4, 33, 63] 100 _ _ _ _ ?_
          refine up (k := q 6 1) (P := fun w => ∀ u v y, u = nI w → v = nI y → (∀ j, y.testBit j = (decide (j < q 6 1) && ((preE i ++ rowE i o).any (hitE q x (q 5 j)) || (decide (j < w) && hitE q x (q 5 j) (i, o))))) → G 63 [some (.ref 0), some (.int sl), some (.int v), some (.int (nI i)), some (.int (nI o)), some (.int (nI (laidQ q i o))), some (.int u)] [] (eM a s)) ?_ ?_ 0 (Nat.zero_le _) _ _ y rfl rfl (fun j => by rw [hy j]; simp)
          · intro u v y hu hv hy
            subst hu; subst hv
            refine xwp_go g1 [4, 33, 63] 100 _ _ _ _ ?_
            refine And.intro (fun _ => ?_) (fun h => ?_)
            · refine iho _ y _ _ (nI_1 o) (fun j => ?_)
              rw [hy j, rowE_s (decide_eq_true h), ← List.append_assoc, List.any_append (ys := [(i, o)])]
              by_cases hj : j < q 6 1 <;> simp [hj]
            · rw [h1] at h
              exact absurd (nI_le (Nat.le_refl _) (by omega)) h
          · intro w hw ihw u v y hu hv hy
            subst hu; subst hv
            have hb := hok.2.2.2.2.2 w hw
            refine xwp_go g1 [4, 33, 63] 100 _ _ _ _ ?_
            refine And.intro (fun h => ?_) (fun _ => ?_)
            · rw [h1] at h
              exact absurd h (nI_ge hw (by omega))
            refine And.intro (vp_in_nI (by omega) (by decide)) ?_
            have e5 : a 5 (nI w).toNatClampNeg = nI (q 5 w) := by rw [nI_clamp (by omega), hr.2.2.1 w hw]
            refine And.intro (fun h => ?_) (fun h => ?_) <;> rw [e5, nI_eq (by omega) (by omega)] at h
            · have hno : hitE q x (q 5 w) (i, o) = false := by
                unfold hitE
                simp only
                rw [show (laidQ q i o == q 5 w) = false from by simpa using (fun z => h z.symm), Bool.and_false]
              refine ihw _ _ (y ||| 0) (nI_1 w) (by rw [show (0 : Int32) = nI 0 from rfl, fa_or]) (fun j => ?_)
              rw [Nat.or_zero, hy j]
              by_cases e : j = w
              · subst e
                rw [hno]; simp
              · rw [show decide (j < w + 1) = decide (j < w) from decide_eq_decide.mpr (by omega)]
            · have hyes : hitE q x (q 5 w) (i, o) = true := by
                unfold hitE
                simp only
                rw [hk, h]; simp
              refine ihw _ _ (y ||| 2 ^ w) (nI_1 w) (by rw [nI_pow (by omega), fa_or]) (fun j => ?_)
              rw [Nat.testBit_or, hy j, Nat.testBit_two_pow]
              by_cases e : j = w
              · subst e
                rw [hyes]; simp [hw]
              · rw [show decide (j < w + 1) = decide (j < w) from decide_eq_decide.mpr (by omega), decide_eq_false (fun z : w = j => e z.symm), Bool.or_false]
        · exact iho _ y _ _ (nI_1 o) (by rw [rowE_n (decide_eq_false h)]; exact hy)
    refine xwp_go g1 [107, 30] 100 _ _ _ _ ?_
    refine And.intro (fun h => ?_) (fun _ => ?_)
    · rw [h0, nI_pow (by omega)] at h
      exact absurd h (nI_ge hi (by omega))
    rcases hx with ⟨rfl, rfl⟩ | ⟨k, hk, rfl, rfl⟩
    · exact And.intro (fun _ => body rfl) (fun h => absurd (by decide) h)
    · refine And.intro (fun h => absurd h (nI_pos (by omega))) (fun _ => ?_)
      refine And.intro (fun h => ?_) (fun h => ?_) <;> rw [nI_bit1 (by omega) (by omega)] at h
      · exact body (by show (!i.testBit k) = true; simpa using h)
      · exact skip (by show (!i.testBit k) = false; rw [h]; rfl)
def spCan (S : SG) (x : Int32) : Int32 × SG := if x = -1 then (nI (canN S.1 none (S.1 6 1)), S) else if hasB (S.1 6 0) x = false then rfs S (-1) else (nI (canN S.1 (some x.toNatClampNeg) (S.1 6 1)), S)
def spWorth (S : SG) (x : Int32) : Int32 × SG := if hasB (S.1 6 0) x = false then rfs S (-1) else (nI (pop (canN S.1 none (S.1 6 1))) - nI (pop (canN S.1 (some x.toNatClampNeg) (S.1 6 1))), S)
theorem m_can (d : Nat) {S : SG} {a : Nat → Nat → Int32} {s : Nat → Int32} (hr : relM S a s) (x : Int32) : xCt xMs (d + 5) nX6_can [.ref 0, .int x] (eM a s) (pMs (spCan S x)) := by
  have h8 := hr.1.1.1
  refine xV (M := mX6_can) rfl rfl rfl rfl rfl pX6_can rfl (fun G g1 g2 g3 => ?_)
  unfold spCan at g2
  refine xwp_go g1 [] 100 _ _ _ _ ?_
  refine And.intro (fun h => ?_) (fun h => ?_)
  · rw [if_pos h] at g2
    refine xcM (G := G) g3 (m_canWithout d hr.1 (Or.inl ⟨h, rfl⟩)) ?_
    refine xwp_go g1 [] 100 _ _ _ _ ?_
    exact xri' (G := G) g2 rfl ⟨rfl, a, s, hr, rfl⟩
  · rw [if_neg h] at g2
    refine xcM (G := G) g3 (m_isSlide (d + 3) hr.1 x) ?_
    refine xwp_go g1 [] 100 _ _ _ _ ?_
    refine And.intro (fun h' => ?_) (fun h' => ?_) <;> rw [bI_0] at h'
    · rw [if_pos h'] at g2
      refine xcMW (G := G) g3 (m_no (d + 3) a s (why := -1) (k := 1) (by decide) (by decide)) ?_
      refine xwp_go g1 [] 100 _ _ _ _ ?_
      exact xri' (G := G) g2 rfl ⟨rfl, _, s, relM_no (k := 1) hr, rfl⟩
    · rw [if_neg h'] at g2
      obtain ⟨i, hi, rfl⟩ := hasB_of (by omega) (Bool.not_eq_false _ ▸ h')
      rw [nI_clamp (by omega)] at g2
      refine xcM (G := G) g3 (m_canWithout d hr.1 (Or.inr ⟨i, hi, rfl, rfl⟩)) ?_
      refine xwp_go g1 [] 100 _ _ _ _ ?_
      exact xri' (G := G) g2 rfl ⟨rfl, a, s, hr, rfl⟩
theorem canN_16 {q : LQ} (h : okS q) (x : Option Nat) : canN q x (q 6 1) < 65536 := by
  have h6 := h.2.1
  have h1 := canN_lt q x (q 6 1)
  have h2 : (2 : Nat) ^ q 6 1 ≤ 2 ^ 16 := Nat.pow_le_pow_right (by decide) (by omega)
  omega
theorem m_worth (d : Nat) {S : SG} {a : Nat → Nat → Int32} {s : Nat → Int32} (hr : relM S a s) (x : Int32) : xCt xMs (d + 5) nX6_worth [.ref 0, .int x] (eM a s) (pMs (spWorth S x)) := by
  have h8 := hr.1.1.1
  refine xV (M := mX6_worth) rfl rfl rfl rfl rfl pX6_worth rfl (fun G g1 g2 g3 => ?_)
  unfold spWorth at g2
  refine xwp_go g1 [] 100 _ _ _ _ ?_
  refine xcM (G := G) g3 (m_isSlide (d + 3) hr.1 x) ?_
  refine xwp_go g1 [] 100 _ _ _ _ ?_
  refine And.intro (fun h' => ?_) (fun h' => ?_) <;> rw [bI_0] at h'
  · rw [if_pos h'] at g2
    refine xcMW (G := G) g3 (m_no (d + 3) a s (why := -1) (k := 1) (by decide) (by decide)) ?_
    refine xwp_go g1 [] 100 _ _ _ _ ?_
    exact xri' (G := G) g2 rfl ⟨rfl, _, s, relM_no (k := 1) hr, rfl⟩
  · rw [if_neg h'] at g2
    obtain ⟨i, hi, rfl⟩ := hasB_of (by omega) (Bool.not_eq_false _ ▸ h')
    rw [nI_clamp (by omega)] at g2
    refine xcM (G := G) g3 (m_canWithout d hr.1 (sl := -1) (Or.inl ⟨rfl, rfl⟩)) ?_
    refine xwp_go g1 [] 100 _ _ _ _ ?_
    refine xcallR (G := G) g3 [] (m_bits (d + 3) [] (canN_16 hr.1.1 none)) ?_
    refine xwp_go g1 [] 100 _ _ _ _ ?_
    refine xcM (G := G) g3 (m_canWithout d hr.1 (Or.inr ⟨i, hi, rfl, rfl⟩)) ?_
    refine xwp_go g1 [] 100 _ _ _ _ ?_
    refine xcallR (G := G) g3 [] (m_bits (d + 3) [] (canN_16 hr.1.1 (some i))) ?_
    refine xwp_go g1 [] 100 _ _ _ _ ?_
    exact xri' (G := G) g2 rfl ⟨rfl, a, s, hr, rfl⟩
