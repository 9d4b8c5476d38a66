/-! the class's calls: count, image, restore, judge, seeds, who, dust -/
theorem x_count (d : Nat) {S : SG} {A : Nat → Nat → Int32} {N : Nat → Int32} (hr : relX S A N) (w : Int32) : xCt xMs (d + 2) nX5_count [.ref 0, .int w] (eX A N) (pXs (spCount S w, S)) := by
  obtain ⟨h0, h1, h2⟩ := hr.1.2.2.2
  refine xV (M := mX5_count) rfl rfl rfl rfl rfl pX5_count rfl (fun G g1 g2 g3 => ?_)
  unfold spCount at g2
  by_cases h : inB w 11 16 = true
  · rw [if_pos h] at g2
    obtain ⟨k, hk1, hk2, rfl⟩ := inB_of (l := 11) (m := 16) (by decide) (by decide) h
    have e : nI k - 10 = nI (k - 10) := pk_sub (b := 10) (by omega)
    refine xwp_go g1 [] 100 _ _ _ _ ?_
    refine And.intro (fun h => absurd h (nI_nlt (a := 11) hk1 (by omega))) (fun _ => ?_)
    refine And.intro (fun h => absurd h (nI_nlt (b := 16) hk2 (by decide))) (fun _ => ?_)
    refine And.intro (by rw [e]; exact vp_in_nI (by omega) (by decide)) ?_
    exact xri' (G := G) g2 rfl ⟨by rw [e, nI_clamp (by omega), hr.2.1 (k - 10) (by omega) (by omega)], A, N, hr, rfl⟩
  rw [if_neg h] at g2
  have rest : G 22 [some (.ref 0), some (.int w)] [] (eX A N) := by
    refine xwp_go g1 [] 100 _ _ _ _ ?_
    refine And.intro (fun h => ?_) (fun n0 => ?_)
    · rw [if_pos h] at g2
      exact xri' (G := G) g2 rfl ⟨by rw [h0], A, N, hr, rfl⟩
    rw [if_neg n0] at g2
    refine And.intro (fun h => ?_) (fun n0 => ?_)
    · rw [if_pos h] at g2
      exact xri' (G := G) g2 rfl ⟨by rw [h1], A, N, hr, rfl⟩
    rw [if_neg n0] at g2
    refine And.intro (fun h => ?_) (fun n0 => ?_)
    · rw [if_pos h] at g2
      exact xri' (G := G) g2 rfl ⟨by rw [h2], A, N, hr, rfl⟩
    rw [if_neg n0] at g2
    refine And.intro (fun h => ?_) (fun n0 => ?_)
    · rw [if_pos h] at g2
      refine xcN (G := G) g3 (c_allUses d hr.1) ?_
      refine xwp_go g1 [] 100 _ _ _ _ ?_
      exact xri' (G := G) g2 rfl ⟨rfl, A, N, hr, rfl⟩
    rw [if_neg n0] at g2
    refine And.intro (fun h => ?_) (fun n0 => ?_)
    · rw [if_pos h] at g2
      refine xcN (G := G) g3 (c_allPrices d hr.1) ?_
      refine xwp_go g1 [] 100 _ _ _ _ ?_
      exact xri' (G := G) g2 rfl ⟨rfl, A, N, hr, rfl⟩
    rw [if_neg n0] at g2
    refine And.intro (fun h => ?_) (fun n0 => ?_)
    · rw [if_pos h] at g2
      exact xri' (G := G) g2 rfl ⟨by rw [hr.2.2.1.1], A, N, hr, rfl⟩
    rw [if_neg n0] at g2
    refine And.intro (fun h => ?_) (fun n0 => ?_)
    · rw [if_pos h] at g2
      exact xri' (G := G) g2 rfl ⟨by rw [hr.2.2.2.1.1], A, N, hr, rfl⟩
    rw [if_neg n0] at g2
    exact xri' (G := G) g2 rfl ⟨rfl, A, N, hr, rfl⟩
  refine xwp_go g1 [22] 100 _ _ _ _ ?_
  refine And.intro (fun _ => rest) (fun h1 => ?_)
  refine And.intro (fun _ => rest) (fun h2 => ?_)
  exact absurd (decide_eq_true ⟨i_le_of_nlt h1, i_le_of_nlt h2⟩) h
/-- nothing but the lantern in mind, the search and the tour differ -/
def sameX (A : Nat → Nat → Int32) (N : Nat → Int32) (A' : Nat → Nat → Int32) (N' : Nat → Int32) : Prop := (∀ r, (r < 6 ∨ 12 ≤ r) → (r < 19 ∨ 26 ≤ r) → A' r = A r) ∧ (∀ r, (r < 3 ∨ 6 ≤ r) → (r < 10 ∨ 17 ≤ r) → N' r = N r)
theorem relX_same {S : SG} {A A' : Nat → Nat → Int32} {N N' : Nat → Int32} (h : relX S A N) (e : sameX A N A' N') : relX S A' N' := by
  obtain ⟨h1, h2, h3, h4, h5, h6⟩ := h
  obtain ⟨eA, eN⟩ := e
  have q0 := eA 0 (by decide) (by decide)
  have q1 := eA 1 (by decide) (by decide)
  have q2 := eA 2 (by decide) (by decide)
  have q3 := eA 3 (by decide) (by decide)
  have q4 := eA 4 (by decide) (by decide)
  have q5 := eA 5 (by decide) (by decide)
  have p0 := eN 0 (by decide) (by decide)
  have p1 := eN 1 (by decide) (by decide)
  have p2 := eN 2 (by decide) (by decide)
  refine ⟨?_, ?_, ?_, ?_, ?_, fun hh => ?_⟩
  · unfold relS at h1 ⊢
    rw [q0, q1, q2, q3, q4, q5, p0, p1, p2]; exact h1
  · rw [eA 27 (by decide) (by decide)]; exact h2
  · rw [eA 18 (by decide) (by decide), eN 9 (by decide) (by decide)]; exact h3
  · rw [eA 26 (by decide) (by decide), eN 17 (by decide) (by decide)]; exact h4
  · rw [eN 18 (by decide) (by decide)]; exact h5
  · have hk := h6 hh
    have a0 : A' (12 + 0) = A (12 + 0) := eA 12 (by decide) (by decide)
    have a1 : A' (12 + 1) = A (12 + 1) := eA 13 (by decide) (by decide)
    have a2 : A' (12 + 2) = A (12 + 2) := eA 14 (by decide) (by decide)
    have a3 : A' (12 + 3) = A (12 + 3) := eA 15 (by decide) (by decide)
    have a4 : A' (12 + 4) = A (12 + 4) := eA 16 (by decide) (by decide)
    have a5 : A' (12 + 5) = A (12 + 5) := eA 17 (by decide) (by decide)
    have n0 : N' (6 + 0) = N (6 + 0) := eN 6 (by decide) (by decide)
    have n1 : N' (6 + 1) = N (6 + 1) := eN 7 (by decide) (by decide)
    have n2 : N' (6 + 2) = N (6 + 2) := eN 8 (by decide) (by decide)
    unfold relS offA ofN at hk ⊢
    rw [a0, a1, a2, a3, a4, a5, n0, n1, n2]; exact hk
theorem same_0 (A : Nat → Nat → Int32) (N : Nat → Int32) : sameX A N A N := ⟨fun _ _ _ => rfl, fun _ _ _ => rfl⟩
theorem same_t {A A' A2 : Nat → Nat → Int32} {N N' N2 : Nat → Int32} (h : sameX A N A' N') (h2 : sameX A' N' A2 N2) : sameX A N A2 N2 := ⟨fun r a b => (h2.1 r a b).trans (h.1 r a b), fun r a b => (h2.2 r a b).trans (h.2 r a b)⟩
theorem same_mind (A a : Nat → Nat → Int32) (N s : Nat → Int32) : sameX A N (ptA A 6 6 a) (ptN N 3 3 s) := ⟨fun r h _ => ptA_out (by omega), fun r h _ => ptN_out (by omega)⟩
abbrev pMN : List Nat := [8, 9, 10, 11, 12, 13, 14, 1, 2, 3, 4, 5, 6, 7]
abbrev pKN : List Nat := [15, 16, 17, 18, 19, 20, 21, 1, 2, 3, 4, 5, 6, 7]
abbrev pNK : List Nat := [1, 2, 3, 4, 5, 6, 7, 15, 16, 17, 18, 19, 20, 21]
abbrev pNM : List Nat := [1, 2, 3, 4, 5, 6, 7, 8, 9, 10, 11, 12, 13, 14]
theorem xsubMN (A : Nat → Nat → Int32) (N : Nat → Int32) : xsub pMN (eL2 (offA A 6) (ofN N 3) A N) (eX A N) := rfl
theorem xputMN (A a : Nat → Nat → Int32) (N s : Nat → Int32) : xput pMN pMN (eL2 a s A N) (eX A N) = eX (ptA A 6 6 a) (ptN N 3 3 s) := rfl
theorem xsubKN (A : Nat → Nat → Int32) (N : Nat → Int32) : xsub pKN (eL2 (offA A 12) (ofN N 6) A N) (eX A N) := rfl
theorem xputKN (A a : Nat → Nat → Int32) (N s : Nat → Int32) : xput pKN pKN (eL2 a s A N) (eX A N) = eX (ptA A 12 6 a) (ptN N 6 3 s) := rfl
theorem xsubNK (A : Nat → Nat → Int32) (N : Nat → Int32) : xsub pNK (eL2 A N (offA A 12) (ofN N 6)) (eX A N) := rfl
theorem xputNK (A a : Nat → Nat → Int32) (N s : Nat → Int32) : xput pNK pNK (eL2 a s (offA A 12) (ofN N 6)) (eX A N) = eX (ptA A 0 6 a) (ptN N 0 3 s) := rfl
theorem xsubNM (A : Nat → Nat → Int32) (N : Nat → Int32) : xsub pNM (eL2 A N (offA A 6) (ofN N 3)) (eX A N) := rfl
theorem xputNM (A a : Nat → Nat → Int32) (N s : Nat → Int32) : xput pNM pNM (eL2 a s (offA A 6) (ofN N 3)) (eX A N) = eX (ptA A 0 6 a) (ptN N 0 3 s) := rfl
theorem x_image (d : Nat) {S : SG} {A : Nat → Nat → Int32} {N : Nat → Int32} (hr : relX S A N) : xCt xMs (d + 2) nX5_image [.ref 0] (eX A N) (pXs (spImage S)) := by
  refine xV (M := mX5_image) rfl rfl rfl rfl rfl pX5_image rfl (fun G g1 g2 g3 => ?_)
  refine xwp_go g1 [] 100 _ _ _ _ ?_
  refine xcall (G := G) g3 pKN (c_becomes d (a := offA A 12) (s := ofN N 6) hr.1) (fun v wc' hp _ => ?_) rfl rfl rfl rfl rfl (xsubKN A N)
  obtain ⟨rfl, a', h1, rfl⟩ := hp
  rw [xputKN]
  refine xwp_go g1 [] 100 _ _ _ _ ?_
  refine And.intro (Or.inr rfl) ?_
  obtain ⟨r1, r2, r3, r4, r5, r6⟩ := hr
  refine xri' (G := G) g2 rfl ⟨?_, ptA A 12 6 a', sU (ptN N 6 3 N) 18 1, ⟨r1, r2, r3, r4, rfl, fun _ => h1⟩, rfl⟩
  show some (Value.int (N 0)) = _
  rw [r1.2.2.2.1]; rfl
theorem x_restore (d : Nat) {S : SG} {A : Nat → Nat → Int32} {N : Nat → Int32} (hr : relX S A N) : xCt xMs (d + 2) nX5_restore [.ref 0] (eX A N) (pXs (spRestore S)) := by
  refine xV (M := mX5_restore) rfl rfl rfl rfl rfl pX5_restore rfl (fun G g1 g2 g3 => ?_)
  unfold spRestore at g2
  refine xwp_go g1 [] 100 _ _ _ _ ?_
  refine And.intro (fun h => ?_) (fun h => ?_) <;> rw [hr.2.2.2.2.1, bI_0] at h
  · rw [if_neg h] at g2
    have hk := hr.2.2.2.2.2 (Bool.not_eq_false _ ▸ h)
    refine xcall (G := G) g3 pNK (c_becomes d (a := A) (s := N) hk) (fun v wc' hp _ => ?_) rfl rfl rfl rfl rfl (xsubNK A N)
    obtain ⟨rfl, a', h1, rfl⟩ := hp
    rw [xputNK]
    refine xwp_go g1 [] 100 _ _ _ _ ?_
    obtain ⟨r1, r2, r3, r4, r5, r6⟩ := hr
    refine xri' (G := G) g2 rfl ⟨?_, ptA A 0 6 a', ptN N 0 3 (ofN N 6), ⟨h1, r2, r3, r4, r5, r6⟩, rfl⟩
    show some (Value.int (ofN N 6 0)) = _
    rw [h1.2.2.2.1]
  · rw [if_pos h] at g2
    refine xcXW (G := G) g3 (x_refused d A N (why := -3) (k := 3) (by decide) (by decide) (by decide)) ?_
    refine xwp_go g1 [] 100 _ _ _ _ ?_
    exact xri' (G := G) g2 rfl ⟨rfl, _, N, relX_no (k := 3) hr, rfl⟩
