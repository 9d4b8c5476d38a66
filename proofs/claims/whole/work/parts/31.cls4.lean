/-! the class's calls: count, image, restore, judge, seeds, who, dust -/
theorem x_count (d : Nat) {S : SG} {A : Nat → Nat → Int32} {N : Nat → Int32} (hr : relX S A N) (w : Int32) : xCt xMs (d + 2) nX5_count [.ref 0, .int w] (eX A N) (pXs (spCount S w, S)) := by
  obtain ⟨h0, h1, h2⟩ := hr.1.2.2.2
  refine xV (M := mX5_count) rfl rfl rfl rfl rfl pX5_count rfl (fun G g1 g2 g3 => ?_)
  unfold spCount at g2
  by_cases h : inB w 11 16 = true
  · rw [if_pos h] at g2
    obtain ⟨k, hk1, hk2, rfl⟩ := inB_of (l := 11) (m := 16) (by decide) (by decide) h
    have e : nI k - 10 = nI (k - 10) := pk_sub (b := 10) (by omega)
    refine xwp_go g1 [] 100 _ _ _ _ ?_
    refine And.intro (fun h => absurd h (nI_nlt (b := 11) hk1 (by omega))) (fun _ => ?_)
    refine And.intro (fun h => absurd h (nI_nlt (a := 16) hk2 (by decide))) (fun _ => ?_)
    refine And.intro (by rw [e]; exact vp_in_nI (by omega) (by decide)) ?_
    exact xri' (G := G) g2 rfl ⟨by rw [e, nI_clamp (by omega), hr.2.1 (k - 10) (by omega) (by omega)], A, N, hr, rfl⟩
  rw [if_neg h] at g2
  have rest : G 22 [some (.ref 0), some (.int w)] [] (eX A N) := by
    refine xwp_go g1 [] 100 _ _ _ _ ?_
    refine And.intro (fun h => ?_) (fun n0 => ?_)
    · rw [if_pos h] at g2
      exact xri' (G := G) g2 rfl ⟨by rw [h0], A, N, hr, rfl⟩
    rw [if_neg n0] at g2
    refine And.intro (fun h => ?_) (fun n0 => ?_)
    · rw [if_pos h] at g2
      exact xri' (G := G) g2 rfl ⟨by rw [h1], A, N, hr, rfl⟩
    rw [if_neg n0] at g2
    refine And.intro (fun h => ?_) (fun n0 => ?_)
    · rw [if_pos h] at g2
      exact xri' (G := G) g2 rfl ⟨by rw [h2], A, N, hr, rfl⟩
    rw [if_neg n0] at g2
    refine And.intro (fun h => ?_) (fun n0 => ?_)
    · rw [if_pos h] at g2
      refine xcN (G := G) g3 (c_allUses d hr.1) ?_
      refine xwp_go g1 [] 100 _ _ _ _ ?_
      exact xri' (G := G) g2 rfl ⟨rfl, A, N, hr, rfl⟩
    rw [if_neg n0] at g2
    refine And.intro (fun h => ?_) (fun n0 => ?_)
    · rw [if_pos h] at g2
      refine xcN (G := G) g3 (c_allPrices d hr.1) ?_
      refine xwp_go g1 [] 100 _ _ _ _ ?_
      exact xri' (G := G) g2 rfl ⟨rfl, A, N, hr, rfl⟩
    rw [if_neg n0] at g2
    refine And.intro (fun h => ?_) (fun n0 => ?_)
    · rw [if_pos h] at g2
      exact xri' (G := G) g2 rfl ⟨by rw [hr.2.2.1.1], A, N, hr, rfl⟩
    rw [if_neg n0] at g2
    refine And.intro (fun h => ?_) (fun n0 => ?_)
    · rw [if_pos h] at g2
      exact xri' (G := G) g2 rfl ⟨by rw [hr.2.2.2.1.1], A, N, hr, rfl⟩
    rw [if_neg n0] at g2
    exact xri' (G := G) g2 rfl ⟨rfl, A, N, hr, rfl⟩
  refine xwp_go g1 [22] 100 _ _ _ _ ?_
  refine And.intro (fun _ => rest) (fun h1 => ?_)
  refine And.intro (fun _ => rest) (fun h2 => ?_)
  exact absurd (decide_eq_true ⟨i_le_of_nlt h1, i_le_of_nlt h2⟩) h
/-- nothing but the lantern in mind, the search and the tour differ -/
def sameX (A : Nat → Nat → Int32) (N : Nat → Int32) (A' : Nat → Nat → Int32) (N' : Nat → Int32) : Prop := (∀ r, (r < 6 ∨ 12 ≤ r) → (r < 19 ∨ 26 ≤ r) → A' r = A r) ∧ (∀ r, (r < 3 ∨ 6 ≤ r) → (r < 10 ∨ 17 ≤ r) → N' r = N r)
theorem relX_same {S : SG} {A A' : Nat → Nat → Int32} {N N' : Nat → Int32} (h : relX S A N) (e : sameX A N A' N') : relX S A' N' := by
  obtain ⟨h1, h2, h3, h4, h5, h6⟩ := h
  obtain ⟨eA, eN⟩ := e
  have q0 := eA 0 (by decide) (by decide)
  have q1 := eA 1 (by decide) (by decide)
  have q2 := eA 2 (by decide) (by decide)
  have q3 := eA 3 (by decide) (by decide)
  have q4 := eA 4 (by decide) (by decide)
  have q5 := eA 5 (by decide) (by decide)
  have p0 := eN 0 (by decide) (by decide)
  have p1 := eN 1 (by decide) (by decide)
  have p2 := eN 2 (by decide) (by decide)
  refine ⟨?_, ?_, ?_, ?_, ?_, fun hh => ?_⟩
  · unfold relS at h1 ⊢
    rw [q0, q1, q2, q3, q4, q5, p0, p1, p2]; exact h1
  · rw [eA 27 (by decide) (by decide)]; exact h2
  · rw [eA 18 (by decide) (by decide), eN 9 (by decide) (by decide)]; exact h3
  · rw [eA 26 (by decide) (by decide), eN 17 (by decide) (by decide)]; exact h4
  · rw [eN 18 (by decide) (by decide)]; exact h5
  · have hk := h6 hh
    have a0 : A' (12 + 0) = A (12 + 0) := eA 12 (by decide) (by decide)
    have a1 : A' (12 + 1) = A (12 + 1) := eA 13 (by decide) (by decide)
    have a2 : A' (12 + 2) = A (12 + 2) := eA 14 (by decide) (by decide)
    have a3 : A' (12 + 3) = A (12 + 3) := eA 15 (by decide) (by decide)
    have a4 : A' (12 + 4) = A (12 + 4) := eA 16 (by decide) (by decide)
    have a5 : A' (12 + 5) = A (12 + 5) := eA 17 (by decide) (by decide)
    have n0 : N' (6 + 0) = N (6 + 0) := eN 6 (by decide) (by decide)
    have n1 : N' (6 + 1) = N (6 + 1) := eN 7 (by decide) (by decide)
    have n2 : N' (6 + 2) = N (6 + 2) := eN 8 (by decide) (by decide)
    unfold relS offA ofN at hk ⊢
    rw [a0, a1, a2, a3, a4, a5, n0, n1, n2]; exact hk
theorem same_0 (A : Nat → Nat → Int32) (N : Nat → Int32) : sameX A N A N := ⟨fun _ _ _ => rfl, fun _ _ _ => rfl⟩
theorem same_t {A A' A2 : Nat → Nat → Int32} {N N' N2 : Nat → Int32} (h : sameX A N A' N') (h2 : sameX A' N' A2 N2) : sameX A N A2 N2 := ⟨fun r a b => (h2.1 r a b).trans (h.1 r a b), fun r a b => (h2.2 r a b).trans (h.2 r a b)⟩
theorem same_mind (A a : Nat → Nat → Int32) (N s : Nat → Int32) : sameX A N (ptA A 6 6 a) (ptN N 3 3 s) := ⟨fun r h _ => ptA_out (by omega), fun r h _ => ptN_out (by omega)⟩
abbrev pMN : List Nat := [8, 9, 10, 11, 12, 13, 14, 1, 2, 3, 4, 5, 6, 7]
abbrev pKN : List Nat := [15, 16, 17, 18, 19, 20, 21, 1, 2, 3, 4, 5, 6, 7]
abbrev pNK : List Nat := [1, 2, 3, 4, 5, 6, 7, 15, 16, 17, 18, 19, 20, 21]
abbrev pNM : List Nat := [1, 2, 3, 4, 5, 6, 7, 8, 9, 10, 11, 12, 13, 14]
theorem xsubMN (A : Nat → Nat → Int32) (N : Nat → Int32) : xsub pMN (eL2 (offA A 6) (ofN N 3) A N) (eX A N) := rfl
theorem xputMN (A a : Nat → Nat → Int32) (N s : Nat → Int32) : xput pMN pMN (eL2 a s A N) (eX A N) = eX (ptA A 6 6 a) (ptN N 3 3 s) := rfl
theorem xsubKN (A : Nat → Nat → Int32) (N : Nat → Int32) : xsub pKN (eL2 (offA A 12) (ofN N 6) A N) (eX A N) := rfl
theorem xputKN (A a : Nat → Nat → Int32) (N s : Nat → Int32) : xput pKN pKN (eL2 a s A N) (eX A N) = eX (ptA A 12 6 a) (ptN N 6 3 s) := rfl
theorem xsubNK (A : Nat → Nat → Int32) (N : Nat → Int32) : xsub pNK (eL2 A N (offA A 12) (ofN N 6)) (eX A N) := rfl
theorem xputNK (A a : Nat → Nat → Int32) (N s : Nat → Int32) : xput pNK pNK (eL2 a s (offA A 12) (ofN N 6)) (eX A N) = eX (ptA A 0 6 a) (ptN N 0 3 s) := rfl
theorem xsubNM (A : Nat → Nat → Int32) (N : Nat → Int32) : xsub pNM (eL2 A N (offA A 6) (ofN N 3)) (eX A N) := rfl
theorem xputNM (A a : Nat → Nat → Int32) (N s : Nat → Int32) : xput pNM pNM (eL2 a s (offA A 6) (ofN N 3)) (eX A N) = eX (ptA A 0 6 a) (ptN N 0 3 s) := rfl
theorem x_image (d : Nat) {S : SG} {A : Nat → Nat → Int32} {N : Nat → Int32} (hr : relX S A N) : xCt xMs (d + 2) nX5_image [.ref 0] (eX A N) (pXs (spImage S)) := by
  refine xV (M := mX5_image) rfl rfl rfl rfl rfl pX5_image rfl (fun G g1 g2 g3 => ?_)
  refine xwp_go g1 [] 100 _ _ _ _ ?_
  refine xcall (G := G) g3 pKN (c_becomes d (a := offA A 12) (s := ofN N 6) hr.1) (fun v wc' hp _ => ?_) rfl rfl rfl rfl rfl (xsubKN A N)
  obtain ⟨rfl, a', h1, rfl⟩ := hp
  rw [xputKN]
  refine xwp_go g1 [] 100 _ _ _ _ ?_
  refine And.intro (Or.inr rfl) ?_
  obtain ⟨r1, r2, r3, r4, r5, r6⟩ := hr
  refine xri' (G := G) g2 rfl ⟨?_, ptA A 12 6 a', sU (ptN N 6 3 N) 18 1, ⟨r1, r2, r3, r4, rfl, fun _ => h1⟩, rfl⟩
  show some (Value.int (N 0)) = _
  rw [r1.2.2.2.1]; rfl
theorem x_restore (d : Nat) {S : SG} {A : Nat → Nat → Int32} {N : Nat → Int32} (hr : relX S A N) : xCt xMs (d + 2) nX5_restore [.ref 0] (eX A N) (pXs (spRestore S)) := by
  refine xV (M := mX5_restore) rfl rfl rfl rfl rfl pX5_restore rfl (fun G g1 g2 g3 => ?_)
  unfold spRestore at g2
  refine xwp_go g1 [] 100 _ _ _ _ ?_
  refine And.intro (fun h => ?_) (fun h => ?_) <;> rw [hr.2.2.2.2.1, bI_0] at h
  · rw [if_neg h] at g2
    have hk := hr.2.2.2.2.2 (Bool.not_eq_false _ ▸ h)
    refine xcall (G := G) g3 pNK (c_becomes d (a := A) (s := N) hk) (fun v wc' hp _ => ?_) rfl rfl rfl rfl rfl (xsubNK A N)
    obtain ⟨rfl, a', h1, rfl⟩ := hp
    rw [xputNK]
    refine xwp_go g1 [] 100 _ _ _ _ ?_
    obtain ⟨r1, r2, r3, r4, r5, r6⟩ := hr
    refine xri' (G := G) g2 rfl ⟨?_, ptA A 0 6 a', ptN N 0 3 (ofN N 6), ⟨h1, r2, r3, r4, r5, r6⟩, rfl⟩
    show some (Value.int (ofN N 6 0)) = _
    rw [h1.2.2.2.1]
  · rw [if_pos h] at g2
    refine xcXW (G := G) g3 (x_refused d A N (why := -3) (k := 3) (by decide) (by decide) (by decide)) ?_
    refine xwp_go g1 [] 100 _ _ _ _ ?_
    exact xri' (G := G) g2 rfl ⟨rfl, _, N, relX_no (k := 3) hr, rfl⟩
theorem x_judge (d : Nat) {S : SG} {A : Nat → Nat → Int32} {N : Nat → Int32} (hr : relX S A N) : xCt xMs (d + 5) nX5_judge [.ref 0] (eX A N) (pXs (spJudge S)) := by
  have hl := lt256 hr.1.1
  have hrr := hr
  obtain ⟨r1, r2, r3, ⟨r4, r40, r41⟩, r5, r6⟩ := hr
  refine xV (M := mX5_judge) rfl rfl rfl rfl rfl pX5_judge rfl (fun G g1 g2 g3 => ?_)
  refine xwp_go g1 [] 100 _ _ _ _ ?_
  refine xcall (G := G) g3 pMN (c_becomes (d + 3) (a := offA A 6) (s := ofN N 3) r1) (fun v wc' hp _ => ?_) rfl rfl rfl rfl rfl (xsubMN A N)
  obtain ⟨rfl, a', h1, rfl⟩ := hp
  rw [xputMN]
  have leave : ∀ (y : Int32) (z : Option Value) (A1 : Nat → Nat → Int32) (N1 : Nat → Int32), y = (jdgL S.1 S.2.2.2.1.2 S.2.2.2.1.1).1 → sameX A N A1 N1 → G 77 [some (.ref 0), some (.int y), z] [] (eX A1 N1) := by
    intro y z A1 N1 hy hs
    refine xwp_go g1 [] 100 _ _ _ _ ?_
    obtain ⟨t1, t2, t3, t4, t5, t6⟩ := relX_same hrr hs
    exact xri' (G := G) g2 rfl ⟨by rw [hy]; rfl, A1, sU N1 17 0, ⟨t1, t2, t3, ⟨rfl, Nat.zero_le _, fun i hi => absurd hi (Nat.not_lt_zero i)⟩, t5, t6⟩, rfl⟩
  refine xwp_go g1 [16] 100 _ _ _ _ ?_
  refine up (k := S.2.2.2.1.1) (P := fun k => ∀ x y A1 N1, x = nI k → y = (jdgL S.1 S.2.2.2.1.2 k).1 → relS (jdgL S.1 S.2.2.2.1.2 k).2 (offA A1 6) (ofN N1 3) → sameX A N A1 N1 → G 16 [some (.ref 0), some (.int y), some (.int x)] [] (eX A1 N1)) ?_ ?_ 0 (Nat.zero_le _) _ _ _ _ rfl rfl h1 (same_mind A a' N N)
  · intro x y A1 N1 hx hy hq hs
    subst hx
    have e17 : N1 17 = nI S.2.2.2.1.1 := (hs.2 17 (by decide) (by decide)).trans r4
    refine xwp_go g1 [16, 77] 100 _ _ _ _ ?_
    refine And.intro (fun _ => leave _ _ _ _ hy hs) (fun h => ?_)
    rw [e17] at h
    exact absurd (nI_le (Nat.le_refl _) (by omega)) h
  · intro k hk ih x y A1 N1 hx hy hq hs
    subst hx
    have e17 : N1 17 = nI S.2.2.2.1.1 := (hs.2 17 (by decide) (by decide)).trans r4
    have es : jdgL S.1 S.2.2.2.1.2 (k + 1) = if ¬ (jdgL S.1 S.2.2.2.1.2 k).1 = -9 then jdgL S.1 S.2.2.2.1.2 k else if showB ((jdgL S.1 S.2.2.2.1.2 k).2 6 0) (nI (S.2.2.2.1.2 k)) = false then (nI k, (jdgL S.1 S.2.2.2.1.2 k).2) else
    (if wishB (projQ (jdgL S.1 S.2.2.2.1.2 k).2 (S.2.2.2.1.2 k)) (laidQ (jdgL S.1 S.2.2.2.1.2 k).2 (S.2.2.2.1.2 k) 0) = true then -9 else nI k, projQ (jdgL S.1 S.2.2.2.1.2 k).2 (S.2.2.2.1.2 k)) := rfl
    refine xwp_go g1 [16, 77] 100 _ _ _ _ ?_
    refine And.intro (fun h => ?_) (fun _ => ?_)
    · rw [e17] at h
      exact absurd h (nI_ge hk (by omega))
    by_cases he : (jdgL S.1 S.2.2.2.1.2 k).1 = -9
    · rw [if_neg (fun z => z he)] at es
      refine And.intro (fun h => absurd (hy.trans he) h) (fun _ => ?_)
      have hin : vp_in (nI k) 12 := vp_in_nI (by omega) (by decide)
      have hW : A1 26 (nI k).toNatClampNeg = nI (S.2.2.2.1.2 k) := by
        rw [nI_clamp (by omega), hs.1 26 (by decide) (by decide)]
        exact (r41 k hk).1
      have hW255 := (r41 k hk).2
      refine And.intro hin ?_
      refine xcD (G := G) g3 (agr1 hW (c_isProjectable (d + 2) hq (nI (S.2.2.2.1.2 k)))) ?_
      refine xwp_go g1 [16, 77] 100 _ _ _ _ ?_
      refine And.intro (fun h' => ?_) (fun h' => ?_) <;> rw [bI_0] at h'
      · rw [if_pos h'] at es
        exact ih _ _ A1 N1 (nI_1 k) (by rw [es]) (by rw [es]; exact hq) hs
      · rw [if_neg h'] at es
        refine And.intro hin ?_
        refine xcDP (G := G) g3 (agr1 hW (c_projected d hq (set := S.2.2.2.1.2 k) (by omega))) (fun v w hp => ⟨_, _, hp.2.choose_spec.2⟩) (fun v a' s' hp => ?_)
        obtain ⟨rfl, a2, q2, q3⟩ := hp
        have e : eX (ptA A1 6 6 a') (ptN N1 3 3 s') = eX (ptA A1 6 6 a2) (ptN N1 3 3 (ofN N1 3)) := by rw [← xputMind A1 a' N1 s', ← xputMind A1 a2 N1 (ofN N1 3), q3]
        rw [e]
        have hs2 := same_t hs (same_mind A1 a2 N1 (ofN N1 3))
        refine xwp_go g1 [16, 77] 100 _ _ _ _ ?_
        refine xcD (G := G) (A := ptA A1 6 6 a2) (N := ptN N1 3 3 (ofN N1 3)) g3 (c_isWanted (d + 3) (q := projQ (jdgL S.1 S.2.2.2.1.2 k).2 (S.2.2.2.1.2 k)) q2 (laidQ_lt hq.1 _ _)) ?_
        refine xwp_go g1 [16, 77] 100 _ _ _ _ ?_
        refine And.intro (fun h5 => ?_) (fun h5 => ?_) <;> rw [bI_0] at h5
        · rw [if_pos (Bool.not_eq_false _ ▸ h5)] at es
          exact ih _ _ _ _ (nI_1 k) (by rw [es, hy, he]) (by rw [es]; exact q2) hs2
        · rw [if_neg (by rw [h5]; decide)] at es
          exact ih _ _ _ _ (nI_1 k) (by rw [es]) (by rw [es]; exact q2) hs2
    · refine And.intro (fun _ => ?_) (fun h => absurd (hy.symm.trans h) he)
      refine leave _ _ _ _ ?_ hs
      have := jdg_stay he (S.2.2.2.1.1 - k)
      rw [show k + (S.2.2.2.1.1 - k) = S.2.2.2.1.1 by omega] at this
      rw [this]; exact hy
theorem x_nextSeed (d : Nat) (ws : xH) (z : Int32) : xCt xMs (d + 1) nX5_nextSeed [.int z] ws (xRet (lcg z) ws) := by
  refine xS (M := mX5_nextSeed) rfl rfl pX5_nextSeed rfl (fun G g1 g2 g3 => ?_)
  refine xwp_go g1 [] 100 _ _ _ _ ?_
  exact xri (G := G) g2 rfl rfl rfl
theorem x_drawBelow (d : Nat) (ws : xH) (z : Int32) {n : Nat} (h0 : 0 < n) (h8 : n ≤ 8) : xCt xMs (d + 1) nX5_drawBelow [.int z, .int (nI n)] ws (xRet (nI (drw z n)) ws) := by
  refine xS (M := mX5_drawBelow) rfl rfl pX5_drawBelow rfl (fun G g1 g2 g3 => ?_)
  refine xwp_go g1 [] 100 _ _ _ _ ?_
  refine And.intro (fun h => ?_) (fun _ => ?_)
  · rw [show (0 : Int32) = nI 0 from rfl, nI_leI (by omega) (by decide)] at h
    omega
  refine And.intro (by decide) (And.intro (nI_ne0 h0 (by omega)) ?_)
  exact xri (G := G) g2 rfl (drwI z h0 h8) rfl
theorem x_seeds (d : Nat) {S : SG} {A : Nat → Nat → Int32} {N : Nat → Int32} (hr : relX S A N) (n z : Int32) : xCt xMs (d + 5) nX5_seeds [.ref 0, .int n, .int z] (eX A N) (pXs (spSeeds S n z)) := by
  have hl := lt256 hr.1.1
  have p8 := hr.1.1.1
  refine xV (M := mX5_seeds) rfl rfl rfl rfl rfl pX5_seeds rfl (fun G g1 g2 g3 => ?_)
  unfold spSeeds at g2
  refine xwp_go g1 [] 100 _ _ _ _ ?_
  refine xcallR (G := G) g3 [] (x_wrongNumber (d + 3) [] n 1 40) ?_
  refine xwp_go g1 [] 100 _ _ _ _ ?_
  refine And.intro (fun h => ?_) (fun h => ?_)
  · rw [if_pos h] at g2
    refine And.intro (fun h' => absurd h' h) (fun _ => ?_)
    refine xcXW (G := G) g3 (x_refused (d + 3) A N (bnd_k0 h) (bnd_k h).1 (bnd_k h).2) ?_
    refine xwp_go g1 [] 100 _ _ _ _ ?_
    exact xri' (G := G) g2 rfl ⟨rfl, _, N, relX_no hr, rfl⟩
  rw [if_neg (fun z => z h)] at g2
  obtain ⟨nn, hn1, hn40, rfl⟩ := bnd_0 (l := 1) (m := 40) (by decide) (by decide) h
  refine And.intro (fun h0 => ?_) (fun h0 => ?_) <;> rw [hr.1.2.2.2.1, show (0 : Int32) = nI 0 from rfl, nI_eq (by omega) (by decide)] at h0
  · rw [if_neg h0, nI_clamp (by omega)] at g2
    refine And.intro (fun _ => ?_) (fun h' => absurd h h')
    generalize bndI (nI nn) 1 40 = why
    refine xcall (G := G) g3 pMN (c_becomes (d + 3) (a := offA A 6) (s := ofN N 3) hr.1) (fun v wc' hp _ => ?_) rfl rfl rfl rfl rfl (xsubMN A N)
    obtain ⟨rfl, a', h1, rfl⟩ := hp
    rw [xputMN]
    refine xwp_go g1 [55] 100 _ _ _ _ ?_
    refine up (k := nn) (P := fun k => ∀ x y zz A1 N1 u7, x = nI k → zz = (sdL S.1 z k).1 → y = nI (sdL S.1 z k).2.2 → relS (sdL S.1 z k).2.1 (offA A1 6) (ofN N1 3) → sameX A N A1 N1 → G 55 [some (.ref 0), some (.int (nI nn)), some (.int z), some (.int why), some (.int y), some (.int zz), some (.int x), u7] [] (eX A1 N1)) ?_ ?_ 0 (Nat.zero_le _) _ _ _ _ _ _ rfl rfl rfl h1 (same_mind A a' N N)
    · intro x y zz A1 N1 u7 hx hz hy hq hs
      subst hx; subst hy; subst hz
      refine xwp_go g1 [55] 100 _ _ _ _ ?_
      refine And.intro (fun _ => ?_) (fun h => absurd (nI_le (Nat.le_refl _) (by omega)) h)
      exact xri' (G := G) g2 rfl ⟨rfl, A1, N1, relX_same hr hs, rfl⟩
    · intro k hk ih x y zz A1 N1 u7 hx hz hy hq hs
      subst hx; subst hy; subst hz
      have hN : N1 3 = nI (S.1 6 0) := by
        have := hq.2.2.2.1
        rw [sd_6] at this
        exact this
      have d1 := drw_lt (lcg (sdL S.1 z k).1) (n := S.1 6 0) (by omega)
      have d2 := drw_lt (lcg (lcg (sdL S.1 z k).1)) (n := S.1 6 0) (by omega)
      have hset := two_lt d1 d2
      refine xwp_go g1 [55] 100 _ _ _ _ ?_
      refine And.intro (fun h => absurd h (nI_ge hk (by omega))) (fun _ => ?_)
      refine xcallR (G := G) g3 [] (x_nextSeed (d + 3) [] _) ?_
      refine xwp_go g1 [55] 100 _ _ _ _ ?_
      refine xcallR (G := G) g3 [] (ag2 rfl hN (x_drawBelow (d + 3) [] _ (by omega) p8)) ?_
      refine xwp_go g1 [55] 100 _ _ _ _ ?_
      refine xcallR (G := G) g3 [] (x_nextSeed (d + 3) [] _) ?_
      refine xwp_go g1 [55] 100 _ _ _ _ ?_
      refine xcallR (G := G) g3 [] (ag2 rfl hN (x_drawBelow (d + 3) [] _ (by omega) p8)) ?_
      refine xwp_go g1 [55] 100 _ _ _ _ ?_
      have eset : (1 : Int32) <<< (nI (drw (lcg (sdL S.1 z k).1) (S.1 6 0)) &&& 31) ||| (1 : Int32) <<< (nI (drw (lcg (lcg (sdL S.1 z k).1)) (S.1 6 0)) &&& 31) = nI (2 ^ drw (lcg (sdL S.1 z k).1) (S.1 6 0) ||| 2 ^ drw (lcg (lcg (sdL S.1 z k).1)) (S.1 6 0)) := by
        rw [nI_pow (by omega), nI_pow (by omega), fa_or]
      refine xcDP (G := G) g3 (agr1 eset (c_projected d hq (by omega))) (fun v w hp => ⟨_, _, hp.2.choose_spec.2⟩) (fun v a' s' hp => ?_)
      obtain ⟨rfl, a2, q2, q3⟩ := hp
      have e : eX (ptA A1 6 6 a') (ptN N1 3 3 s') = eX (ptA A1 6 6 a2) (ptN N1 3 3 (ofN N1 3)) := by rw [← xputMind A1 a' N1 s', ← xputMind A1 a2 N1 (ofN N1 3), q3]
      rw [e]
      refine xwp_go g1 [55] 100 _ _ _ _ ?_
      refine xcallR (G := G) g3 [] (c_bitCount (d + 3) [] (laidQ_lt hq.1 _ _)) ?_
      refine xwp_go g1 [55] 100 _ _ _ _ ?_
      exact ih _ _ _ _ _ _ (nI_1 k) rfl (by rw [nI_add]; rfl) q2 (same_t hs (same_mind A1 a2 N1 (ofN N1 3)))
  · rw [if_pos h0] at g2
    refine And.intro (fun h' => absurd h' (by decide)) (fun _ => ?_)
    refine xcXW (G := G) g3 (x_refused (d + 3) A N (why := -3) (k := 3) (by decide) (by decide) (by decide)) ?_
    refine xwp_go g1 [] 100 _ _ _ _ ?_
    exact xri' (G := G) g2 rfl ⟨rfl, _, N, relX_no (k := 3) hr, rfl⟩
