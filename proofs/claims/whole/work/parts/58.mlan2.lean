/-! the reference's lantern, second half: the statements come -/
def lanE (T : Nat → Nat) (N : Nat) (S : SG) (k : Nat) : Int32 × SG := match (runA T N S.1 k).1 with
  | some p => (-2000 - nI p, fgt S)
  | none => (nI k, setQ (fgt S) (runA T N S.1 k).2)
theorem m_lan2 {d : Nat} {S : SG} {a : Nat → Nat → Int32} {s : Nat → Int32} {T : Nat → Nat} {N : Nat} (hr : relM S a s) {G : xK} (g1 : xG1 mX6_lantern.2.2.2.2.1 G) (g3 : xG3 xMs mX6_lantern.2.2.2.2.1 (xCt xMs (d + 4)) G) {k : Nat} {f8 f9 f10 : Nat → Int32} {v4 : Int32} {z2 : Option Value} (hk : k ≤ 27) (hno : noted T N k f8 f9 f10) (g2 : xG2 mX6_lantern.2.2.2.2.1 mX6_lantern.2.2.2.1 (pMs (lanE T N S k)) G) : G 60 [some (.ref 0), some (.int 1), z2] [] (eM (aU (aU (aU a 8 f8) 9 f9) 10 f10) (sU (sU s 4 v4) 5 (nI k))) := by
  obtain ⟨r1, r2, r3, r4, r5, r6⟩ := hr
  refine xwp_go g1 [] 100 _ _ _ _ ?_
  refine And.intro (fun _ => ?_) (fun h => absurd h (by decide))
  refine xcMP (G := G) g3 (m_keepAll (d + 2) (a := aU (aU (aU a 8 f8) 9 f9) 10 f10) (s := sU (sU (sU s 4 v4) 5 (nI k)) 3 0) r1 (o := 1) (by decide)) (fun v w hp => ⟨_, _, hp.2.choose_spec.choose_spec.2.2.2⟩) (fun v a' s' hp => ?_)
  obtain ⟨rfl, F, s2, q1, q2, q3, e⟩ := hp
  rw [e]
  have e5 : s2 5 = nI k := q3 5 (by decide) (by decide)
  have hrel : relS S.1 (aU (aU (aU (aU a 8 f8) 9 f9) 10 f10) 11 F) s2 := by
    obtain ⟨p1, p2, p3, p4, p5, p6⟩ := r1
    exact ⟨p1, p2, p3, by rw [q3 0 (by decide) (by decide)]; exact p4, by rw [q3 1 (by decide) (by decide)]; exact p5, by rw [q3 2 (by decide) (by decide)]; exact p6⟩
  have mk : ∀ q a1 s1, relS q a1 s1 → (∀ r, 6 ≤ r → a1 r = aU (aU (aU (aU a 8 f8) 9 f9) 10 f10) 11 F r) → (∀ r, 3 ≤ r → r ≠ 7 → r ≠ 8 → s1 r = s2 r) → relM (setQ (fgt S) q) a1 s1 := by
    intro q a1 s1 hq hA hS
    refine ⟨hq, ?_, ⟨?_, Nat.zero_le _, fun i hi => absurd hi (Nat.not_lt_zero i)⟩, ?_, ?_, fun hh => ?_⟩
    · rw [hA 6 (by decide)]; exact r2
    · rw [hS 3 (by decide) (by decide) (by decide), q3 3 (by decide) (by decide)]; rfl
    · rw [hA 15 (by decide), hS 15 (by decide) (by decide) (by decide), q3 15 (by decide) (by decide)]; exact r4
    · rw [hS 6 (by decide) (by decide) (by decide), q3 6 (by decide) (by decide)]; exact r5
    · rw [hA 11 (by decide)]
      exact keptA_keep (r6 hh) (fun j hj => q2 j (Or.inl (by omega)))
  refine xwp_go g1 [86] 100 _ _ _ _ ?_
  refine up (k := k) (P := fun i => ∀ x a1 s1 q, x = nI i → runA T N S.1 i = (none, q) → relS q a1 s1 → (∀ r, 6 ≤ r → a1 r = aU (aU (aU (aU a 8 f8) 9 f9) 10 f10) 11 F r) → (∀ r, 3 ≤ r → r ≠ 7 → r ≠ 8 → s1 r = s2 r) → G 86 [some (.ref 0), some (.int 1), some (.int x)] [] (eM a1 s1)) ?_ ?_ 0 (Nat.zero_le _) _ _ s2 S.1 rfl rfl hrel (fun _ _ => rfl) (fun _ _ _ _ => rfl)
  · intro x a1 s1 q hx hrun hq hA hS
    subst hx
    have e5' : s1 5 = nI k := (hS 5 (by decide) (by decide) (by decide)).trans e5
    unfold lanE at g2
    rw [hrun] at g2
    refine xwp_go g1 [86] 100 _ _ _ _ ?_
    refine And.intro (fun _ => ?_) (fun h => ?_)
    · exact xri' (G := G) g2 rfl ⟨by rw [e5'], a1, s1, mk q a1 s1 hq hA hS, rfl⟩
    · rw [e5'] at h
      exact absurd (nI_le (Nat.le_refl _) (by omega)) h
  · intro i hi ih x a1 s1 q hx hrun hq hA hS
    subst hx
    have e5' : s1 5 = nI k := (hS 5 (by decide) (by decide) (by decide)).trans e5
    obtain ⟨n1, n2, n3, n4⟩ := hno i hi
    have es : runA T N S.1 (i + 1) = match appQ T N (sP T N i) q with
      | some q2 => (none, q2)
      | none => (some (sP T N i), q) := by
      show (match (runA T N S.1 i).1 with
        | some p => (some p, (runA T N S.1 i).2)
        | none => _) = _
      rw [hrun]
      rfl
    refine xwp_go g1 [86] 100 _ _ _ _ ?_
    refine And.intro (fun h => ?_) (fun _ => ?_)
    · rw [e5'] at h
      exact absurd h (nI_ge hi (by omega))
    refine xcMP (G := G) g3 (m_comes (d + 3) (c := i) (by omega) hq (stm_dat n1) (by rw [hA 8 (by decide)]; exact n2) (by rw [hA 10 (by decide)]; exact n4)) (fun v w hp => ⟨_, _, hp.2.choose_spec.choose_spec.2.2.2⟩) (fun v a' s' hp => ?_)
    obtain ⟨rfl, a2, s3, c1, c2, c3, e2⟩ := hp
    rw [e2]
    cases ha : appQ T N (sP T N i) q with
    | some q2 =>
      rw [ha] at es
      refine xwp_go g1 [86] 100 _ _ _ _ ?_
      refine And.intro (fun h => absurd h (show ¬ (1 : Int32) = 0 by decide)) (fun _ => ?_)
      exact ih _ a2 s3 q2 (nI_1 i) es (c1 q2 ha) (fun r h6 => (c2 r h6).trans (hA r h6)) (fun r h3 h7 h8 => (c3 r h3).trans (hS r h3 h7 h8))
    | none =>
      rw [ha] at es
      have hstop := runA_stop (T := T) (N := N) (q := S.1) (k := i + 1) (p := sP T N i) (by rw [es]) (k - (i + 1))
      rw [show i + 1 + (k - (i + 1)) = k by omega] at hstop
      unfold lanE at g2
      rw [hstop] at g2
      refine xwp_go g1 [86] 100 _ _ _ _ ?_
      refine And.intro (fun _ => ?_) (fun h => absurd rfl h)
      refine xcMP (G := G) g3 (m_backAll (d + 2) (q := S.1) (a := a2) (s := s3) (o := 1) (by decide) (by rw [c2 11 (by decide), hA 11 (by decide)]; exact q1)) (fun v w hp => ⟨_, _, hp.2.choose_spec.choose_spec.2.2.2⟩) (fun v a' s' hp => ?_)
      obtain ⟨rfl, a3, s4, g4, g5, g6, g7⟩ := hp
      rw [g7]
      refine xwp_go g1 [86] 100 _ _ _ _ ?_
      refine And.intro (vp_in_nI (by omega) (by decide)) ?_
      have e9 : a3 9 (nI i).toNatClampNeg = nI (sP T N i) := by rw [nI_clamp (by omega), g5 9 (by decide), c2 9 (by decide), hA 9 (by decide)]; exact n3
      exact xri' (G := G) g2 rfl ⟨by rw [e9], a3, s4, mk S.1 a3 s4 g4 (fun r h6 => by rw [g5 r h6, c2 r h6]; exact hA r h6) (fun r h3 h7 h8 => by rw [g6 r h3 h7 h8, c3 r h3]; exact hS r h3 h7 h8), rfl⟩
