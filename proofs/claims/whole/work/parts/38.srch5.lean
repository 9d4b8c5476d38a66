/-! the class's calls fewest, cheapest, near, can, worth -/
abbrev pSN : List Nat := [24, 25, 26, 27, 28, 1, 2, 3, 4, 5, 6, 7]
theorem xsubSN (A : Nat → Nat → Int32) (N : Nat → Int32) : xsub pSN (eSL (offA A 19) (ofN N 10) A N) (eX A N) := rfl
theorem xputSN (A b : Nat → Nat → Int32) (N t : Nat → Int32) : xput pSN pSN (eSL b t A N) (eX A N) = eX (ptA A 19 4 b) (ptN N 10 7 t) := rfl
theorem same_srch (A b : Nat → Nat → Int32) (N t : Nat → Int32) : sameX A N (ptA A 19 4 b) (ptN N 10 7 t) := ⟨fun r _ h => ptA_out (by omega), fun r _ h => ptN_out (by omega)⟩
/-- what the class finds is what the reference finds: proved behind -/
def fewEq (q : LQ) : Prop := ∀ p, p < 65536 → ∀ k, k ≤ 3 → (if 0 < (fewF q p).2.2.2 then fewI (some (fewF q p)) k else -9) = fewI (findQ q p).2.2 k
def cheEq (q : LQ) : Prop := ∀ p, p < 65536 → (if cheC q p = 1000 then (-9 : Int32) else nI (cheC q p)) = optI (findQ q p).2.1
def neaEq (q : LQ) : Prop := ∀ p, p < 65536 → neaN q p = (findQ q p).1
def canEq (q : LQ) : Prop := ∀ x, (x = none ∨ ∃ i, i < q 6 0 ∧ x = some i) → canC q x (q 6 1) = canN q x (q 6 1)
theorem x_fewest (d : Nat) {S : SG} {A : Nat → Nat → Int32} {N : Nat → Int32} (hr : relX S A N) (hE : fewEq S.1) (p w : Int32) : xCt xMs (d + 13) nX5_fewest [.ref 0, .int p, .int w] (eX A N) (pXs (spFewest S p w)) := by
  refine xV (M := mX5_fewest) rfl rfl rfl rfl rfl pX5_fewest rfl (fun G g1 g2 g3 => ?_)
  unfold spFewest at g2
  refine xwp_go g1 [] 100 _ _ _ _ ?_
  refine xcallR (G := G) g3 [] (x_wrongAsked (d + 10) [] p w 3) ?_
  refine xwp_go g1 [] 100 _ _ _ _ ?_
  refine And.intro (fun h => ?_) (fun h => ?_)
  · obtain ⟨b1, b2, ⟨k, hk, rfl⟩, ⟨m, hm, rfl⟩⟩ := wa_0 (m := 3) (by decide) h
    rw [wa_spec0 (m := 3) b1 b2, nI_clamp (by omega), nI_clamp (by omega), ← hE m hm k hk] at g2
    refine xcall (G := G) g3 pSN (t_findsFewest d hr.1 (offA A 19) (ofN N 10) hm) (fun v wc' hp _ => ?_) rfl rfl rfl rfl rfl (xsubSN A N)
    obtain ⟨rfl, b', t', rfl⟩ := hp
    rw [xputSN]
    have hX := relX_same hr (same_srch A b' N (tF t' (fewF S.1 m)))
    generalize fewF S.1 m = F at g2 hX
    refine xwp_go g1 [] 100 _ _ _ _ ?_
    refine And.intro (fun h1 => ?_) (fun h1 => ?_) <;> rw [bI_0] at h1
    · have h1 : 0 < F.2.2.2 := of_decide_eq_true (Bool.not_eq_false _ ▸ h1)
      rw [if_pos h1] at g2
      refine And.intro (fun h2 => ?_) (fun h2 => ?_) <;> rw [show (0 : Int32) = nI 0 from rfl, nI_eq (by omega) (by decide)] at h2
      · subst h2
        exact xri' (G := G) g2 rfl ⟨rfl, _, _, hX, rfl⟩
      refine And.intro (fun h3 => ?_) (fun h3 => ?_) <;> rw [show (1 : Int32) = nI 1 from rfl, nI_eq (by omega) (by decide)] at h3
      · subst h3
        exact xri' (G := G) g2 rfl ⟨rfl, _, _, hX, rfl⟩
      refine And.intro (fun h4 => ?_) (fun h4 => ?_) <;> rw [show (2 : Int32) = nI 2 from rfl, nI_eq (by omega) (by decide)] at h4
      · subst h4
        exact xri' (G := G) g2 rfl ⟨rfl, _, _, hX, rfl⟩
      · obtain rfl : k = 3 := by omega
        exact xri' (G := G) g2 rfl ⟨rfl, _, _, hX, rfl⟩
    · have h1 : ¬ 0 < F.2.2.2 := of_decide_eq_false h1
      rw [if_neg h1] at g2
      exact xri' (G := G) g2 rfl ⟨rfl, _, _, hX, rfl⟩
  · rw [wa_spec h] at g2
    refine xcXW (G := G) g3 (x_refused (d + 11) A N (wa_k h).1 (wa_k h).2.1 (wa_k h).2.2) ?_
    refine xwp_go g1 [] 100 _ _ _ _ ?_
    exact xri' (G := G) g2 rfl ⟨rfl, _, N, relX_no hr, rfl⟩
theorem x_cheapest (d : Nat) {S : SG} {A : Nat → Nat → Int32} {N : Nat → Int32} (hr : relX S A N) (hE : cheEq S.1) (p : Int32) : xCt xMs (d + 13) nX5_cheapest [.ref 0, .int p] (eX A N) (pXs (spCheapest S p)) := by
  refine xV (M := mX5_cheapest) rfl rfl rfl rfl rfl pX5_cheapest rfl (fun G g1 g2 g3 => ?_)
  unfold spCheapest at g2
  refine xwp_go g1 [] 100 _ _ _ _ ?_
  refine xcallR (G := G) g3 [] (x_wrongNumber (d + 11) [] p 0 65535) ?_
  refine xwp_go g1 [] 100 _ _ _ _ ?_
  refine And.intro (fun h => ?_) (fun h => ?_)
  · rw [if_neg (fun z => z h)] at g2
    obtain ⟨m, -, hm, rfl⟩ := bnd_0 (l := 0) (m := 65535) (by decide) (by decide) h
    rw [nI_clamp (by omega), ← hE m (by omega)] at g2
    refine xcall (G := G) g3 pSN (t_leastPrice d hr.1 (offA A 19) (ofN N 10) (p := m) (by omega)) (fun v wc' hp _ => ?_) rfl rfl rfl rfl rfl (xsubSN A N)
    obtain ⟨rfl, b', t', rfl⟩ := hp
    rw [xputSN]
    have hX := relX_same hr (same_srch A b' N t')
    have hle : cheC S.1 m ≤ 1000 := skC_le _ _ _ _ _ _
    by_cases e : cheC S.1 m = 1000
    · rw [if_pos e] at g2
      rw [if_pos e]
      refine xwp_go g1 [] 100 _ _ _ _ ?_
      refine And.intro (fun h => absurd h (by decide)) (fun _ => ?_)
      exact xri' (G := G) g2 rfl ⟨rfl, _, _, hX, rfl⟩
    · rw [if_neg e] at g2
      rw [if_neg e]
      refine xwp_go g1 [] 100 _ _ _ _ ?_
      refine And.intro (fun _ => ?_) (fun h => absurd (nI_pos' (by omega)) h)
      exact xri' (G := G) g2 rfl ⟨rfl, _, _, hX, rfl⟩
  · rw [if_pos h] at g2
    refine xcXW (G := G) g3 (x_refused (d + 11) A N (bnd_k0 h) (bnd_k h).1 (bnd_k h).2) ?_
    refine xwp_go g1 [] 100 _ _ _ _ ?_
    exact xri' (G := G) g2 rfl ⟨rfl, _, N, relX_no hr, rfl⟩
theorem x_near (d : Nat) {S : SG} {A : Nat → Nat → Int32} {N : Nat → Int32} (hr : relX S A N) (hE : neaEq S.1) (p : Int32) : xCt xMs (d + 13) nX5_near [.ref 0, .int p] (eX A N) (pXs (spNear S p)) := by
  refine xV (M := mX5_near) rfl rfl rfl rfl rfl pX5_near rfl (fun G g1 g2 g3 => ?_)
  unfold spNear at g2
  refine xwp_go g1 [] 100 _ _ _ _ ?_
  refine xcallR (G := G) g3 [] (x_wrongNumber (d + 11) [] p 0 65535) ?_
  refine xwp_go g1 [] 100 _ _ _ _ ?_
  refine And.intro (fun h => ?_) (fun h => ?_)
  · rw [if_neg (fun z => z h)] at g2
    obtain ⟨m, -, hm, rfl⟩ := bnd_0 (l := 0) (m := 65535) (by decide) (by decide) h
    rw [nI_clamp (by omega), ← hE m (by omega)] at g2
    refine xcall (G := G) g3 pSN (t_leastUnlike d hr.1 (offA A 19) (ofN N 10) (p := m) (by omega)) (fun v wc' hp _ => ?_) rfl rfl rfl rfl rfl (xsubSN A N)
    obtain ⟨rfl, b', t', rfl⟩ := hp
    rw [xputSN]
    refine xwp_go g1 [] 100 _ _ _ _ ?_
    exact xri' (G := G) g2 rfl ⟨rfl, _, _, relX_same hr (same_srch A b' N t'), rfl⟩
  · rw [if_pos h] at g2
    refine xcXW (G := G) g3 (x_refused (d + 11) A N (bnd_k0 h) (bnd_k h).1 (bnd_k h).2) ?_
    refine xwp_go g1 [] 100 _ _ _ _ ?_
    exact xri' (G := G) g2 rfl ⟨rfl, _, N, relX_no hr, rfl⟩
theorem x_can (d : Nat) {S : SG} {A : Nat → Nat → Int32} {N : Nat → Int32} (hr : relX S A N) (hE : canEq S.1) (x : Int32) : xCt xMs (d + 13) nX5_can [.ref 0, .int x] (eX A N) (pXs (spCan S x)) := by
  have h8 := hr.1.1.1
  refine xV (M := mX5_can) rfl rfl rfl rfl rfl pX5_can rfl (fun G g1 g2 g3 => ?_)
  unfold spCan at g2
  have fin : ∀ o, wOut S.1 x o → xG2 mX5_can.2.2.2.2.1 mX5_can.2.2.2.1 (pXs (nI (canN S.1 o (S.1 6 1)), S)) G → G 22 [some (.ref 0), some (.int x)] [] (eX A N) := by
    intro o ho g2
    rw [← hE o (by rcases ho with ⟨-, e⟩ | ⟨i, hi, -, e⟩; exact Or.inl e; exact Or.inr ⟨i, hi, e⟩)] at g2
    refine xwp_go g1 [] 100 _ _ _ _ ?_
    refine xcall (G := G) g3 pSN (t_showable d hr.1 (offA A 19) (ofN N 10) ho) (fun v wc' hp _ => ?_) rfl rfl rfl rfl rfl (xsubSN A N)
    obtain ⟨rfl, b', t', rfl⟩ := hp
    rw [xputSN]
    refine xwp_go g1 [] 100 _ _ _ _ ?_
    exact xri' (G := G) g2 rfl ⟨rfl, _, _, relX_same hr (same_srch A b' N t'), rfl⟩
  refine xwp_go g1 [22] 100 _ _ _ _ ?_
  refine And.intro (fun h => ?_) (fun h => ?_)
  · rw [if_pos h] at g2
    exact fin none (Or.inl ⟨h, rfl⟩) g2
  · rw [if_neg h] at g2
    refine xcN (G := G) g3 (c_has (d + 11) hr.1 x) ?_
    refine xwp_go g1 [22] 100 _ _ _ _ ?_
    refine And.intro (fun h' => ?_) (fun h' => ?_) <;> rw [bI_0] at h'
    · rw [if_neg h'] at g2
      obtain ⟨i, hi, rfl⟩ := hasB_of (by omega) (Bool.not_eq_false _ ▸ h')
      rw [nI_clamp (by omega)] at g2
      exact fin (some i) (Or.inr ⟨i, hi, rfl, rfl⟩) g2
    · rw [if_pos h'] at g2
      refine xcXW (G := G) g3 (x_refused (d + 11) A N (why := -1) (k := 1) (by decide) (by decide) (by decide)) ?_
      refine xwp_go g1 [] 100 _ _ _ _ ?_
      exact xri' (G := G) g2 rfl ⟨rfl, _, N, relX_no (k := 1) hr, rfl⟩
theorem x_worth (d : Nat) {S : SG} {A : Nat → Nat → Int32} {N : Nat → Int32} (hr : relX S A N) (hE : canEq S.1) (x : Int32) : xCt xMs (d + 13) nX5_worth [.ref 0, .int x] (eX A N) (pXs (spWorth S x)) := by
  have h8 := hr.1.1.1
  refine xV (M := mX5_worth) rfl rfl rfl rfl rfl pX5_worth rfl (fun G g1 g2 g3 => ?_)
  unfold spWorth at g2
  refine xwp_go g1 [] 100 _ _ _ _ ?_
  refine xcX (G := G) g3 (x_wrongSlide (d + 10) hr.1 x) ?_
  refine xwp_go g1 [] 100 _ _ _ _ ?_
  refine And.intro (fun h => ?_) (fun h => ?_) <;> rw [wsI_0] at h
  · rw [if_neg (by rw [h]; decide)] at g2
    obtain ⟨i, hi, rfl⟩ := hasB_of (by omega) h
    rw [nI_clamp (by omega), ← hE none (Or.inl rfl), ← hE (some i) (Or.inr ⟨i, hi, rfl⟩)] at g2
    generalize wsI (hasB (S.1 6 0) (nI i)) = u2
    refine xcall (G := G) g3 pSN (t_showable d hr.1 (offA A 19) (ofN N 10) (w := -1) (x := none) (Or.inl ⟨rfl, rfl⟩)) (fun v wc' hp _ => ?_) rfl rfl rfl rfl rfl (xsubSN A N)
    obtain ⟨rfl, b', t', rfl⟩ := hp
    rw [xputSN]
    have hX := relX_same hr (same_srch A b' N t')
    generalize ptA A 19 4 b' = A1 at hX
    generalize ptN N 10 7 t' = N1 at hX
    refine xwp_go g1 [] 100 _ _ _ _ ?_
    have c1 : canC S.1 none (S.1 6 1) < 65536 := by rw [hE none (Or.inl rfl)]; exact canN_16 hr.1.1 none
    have c2 : canC S.1 (some i) (S.1 6 1) < 65536 := by rw [hE (some i) (Or.inr ⟨i, hi, rfl⟩)]; exact canN_16 hr.1.1 (some i)
    refine xcallR (G := G) g3 [] (c_bitCount (d + 11) [] c1) ?_
    refine xwp_go g1 [] 100 _ _ _ _ ?_
    refine xcall (G := G) g3 pSN (t_showable d hX.1 (offA A1 19) (ofN N1 10) (w := nI i) (x := some i) (Or.inr ⟨i, hi, rfl, rfl⟩)) (fun v wc' hp _ => ?_) rfl rfl rfl rfl rfl (xsubSN A1 N1)
    obtain ⟨rfl, b2, t2, rfl⟩ := hp
    rw [xputSN]
    refine xwp_go g1 [] 100 _ _ _ _ ?_
    refine xcallR (G := G) g3 [] (c_bitCount (d + 11) [] c2) ?_
    refine xwp_go g1 [] 100 _ _ _ _ ?_
    exact xri' (G := G) g2 rfl ⟨rfl, _, _, relX_same hX (same_srch A1 b2 N1 t2), rfl⟩
  · rw [Bool.not_eq_true] at h
    rw [if_pos h] at g2
    rw [h]
    refine xcXW (G := G) g3 (x_refused (d + 11) A N (why := -1) (k := 1) (by decide) (by decide) (by decide)) ?_
    refine xwp_go g1 [] 100 _ _ _ _ ?_
    exact xri' (G := G) g2 rfl ⟨rfl, _, N, relX_no (k := 1) hr, rfl⟩
