/-! the reference's lantern -/
theorem m_lantern (d : Nat) {S : SG} {a : Nat → Nat → Int32} {s : Nat → Int32} (hr : relM S a s) : xCt xMs (d + 5) nX6_lantern [.ref 0] (eM a s) (pMs (spLantern S)) := by
  have h3 := hr.2.2.1.1
  have h80 := hr.2.2.1.2.1
  have ht : tapeM S.2.2.1.2 S.2.2.1.1 a s := hr.2.2.1
  refine xV (M := mX6_lantern) rfl rfl rfl rfl rfl pX6_lantern rfl (fun G g1 g2 g3 => ?_)
  unfold spLantern at g2
  have bad : ∀ f8 f9 f10 v5 z2, (lanR S).2.2 = false → G 60 [some (.ref 0), some (.int 0), z2] [] (eM (aU (aU (aU a 8 f8) 9 f9) 10 f10) (sU (sU s 4 (nI (lanR S).2.1)) 5 v5)) := by
    intro f8 f9 f10 v5 z2 h1
    rw [if_pos h1] at g2
    obtain ⟨r1, r2, r3, r4, r5, r6⟩ := hr
    refine xwp_go g1 [] 100 _ _ _ _ ?_
    refine And.intro (fun h => absurd rfl h) (fun _ => ?_)
    exact xri' (G := G) g2 rfl ⟨rfl, aU (aU (aU a 8 f8) 9 f9) 10 f10, sU (sU (sU s 4 (nI (lanR S).2.1)) 5 v5) 3 0, ⟨r1, r2, ⟨rfl, Nat.zero_le _, fun i hi => absurd hi (Nat.not_lt_zero i)⟩, r4, r5, r6⟩, rfl⟩
  refine xwp_go g1 [12] 100 _ _ _ _ ?_
  refine up (k := 30) (P := fun k => ∀ f8 f9 f10 z2, lanR S = lanK S.2.2.1.2 S.2.2.1.1 (40 - k) k (sP S.2.2.1.2 S.2.2.1.1 k) → 3 * k ≤ sP S.2.2.1.2 S.2.2.1.1 k → sP S.2.2.1.2 S.2.2.1.1 k ≤ S.2.2.1.1 → noted S.2.2.1.2 S.2.2.1.1 k f8 f9 f10 → G 12 [some (.ref 0), some (.int 1), z2] [] (eM (aU (aU (aU a 8 f8) 9 f9) 10 f10) (sU (sU s 4 (nI (sP S.2.2.1.2 S.2.2.1.1 k))) 5 (nI k)))) ?_ ?_ 0 (Nat.zero_le _) (a 8) (a 9) (a 10) _ rfl (Nat.le_refl _) (Nat.zero_le _) (fun j hj => absurd hj (Nat.not_lt_zero j))
  · intro f8 f9 f10 z2 _ h1 h2 _
    omega
  · intro k hk ih f8 f9 f10 z2 hl h1 h2 hno
    rw [show 40 - k = (39 - k) + 1 by omega] at hl
    have el : lanR S = if k = 0 ∨ sP S.2.2.1.2 S.2.2.1.1 k < S.2.2.1.1 then (if (stmR S.2.2.1.2 S.2.2.1.1 (sP S.2.2.1.2 S.2.2.1.1 k)).1 = true then lanK S.2.2.1.2 S.2.2.1.1 (39 - k) (k + 1) (stmR S.2.2.1.2 S.2.2.1.1 (sP S.2.2.1.2 S.2.2.1.1 k)).2 else (k, (stmR S.2.2.1.2 S.2.2.1.1 (sP S.2.2.1.2 S.2.2.1.1 k)).2, false)) else (k, sP S.2.2.1.2 S.2.2.1.1 k, true) := hl
    have body : (k = 0 ∨ sP S.2.2.1.2 S.2.2.1.1 k < S.2.2.1.1) → G 34 [some (.ref 0), some (.int 1), z2] [] (eM (aU (aU (aU a 8 f8) 9 f9) 10 f10) (sU (sU s 4 (nI (sP S.2.2.1.2 S.2.2.1.1 k))) 5 (nI k))) := by
      intro hgo
      rw [if_pos hgo] at el
      refine xwp_go g1 [] 100 _ _ _ _ ?_
      refine xcMP (G := G) g3 (m_statement d (a := aU (aU (aU a 8 f8) 9 f9) 10 f10) (s := sU (sU s 4 (nI (sP S.2.2.1.2 S.2.2.1.1 k))) 5 (nI k)) ht (i := sP S.2.2.1.2 S.2.2.1.1 k) (c := k) (by omega) (by omega) rfl rfl) (fun v w hp => ⟨_, _, hp.2.choose_spec.choose_spec.choose_spec.2.2.2⟩) (fun v a' s' hp => ?_)
      obtain ⟨rfl, F8, F9, F10, k1, k2, k3, e⟩ := hp
      rw [e]
      have sw : eM (aU (aU (aU (aU (aU (aU a 8 f8) 9 f9) 10 f10) 8 F8) 9 F9) 10 F10) (sU (sU (sU s 4 (nI (sP S.2.2.1.2 S.2.2.1.1 k))) 5 (nI k)) 4 (nI (stmR S.2.2.1.2 S.2.2.1.1 (sP S.2.2.1.2 S.2.2.1.1 k)).2)) = eM (aU (aU (aU a 8 F8) 9 F9) 10 F10) (sU (sU s 4 (nI (stmR S.2.2.1.2 S.2.2.1.1 (sP S.2.2.1.2 S.2.2.1.1 k)).2)) 5 (nI k)) := rfl
      rw [sw]
      cases hok : (stmR S.2.2.1.2 S.2.2.1.1 (sP S.2.2.1.2 S.2.2.1.1 k)).1 with
      | false =>
        rw [if_neg (by rw [hok]; decide)] at el
        have := bad F8 F9 F10 (nI k + 0) z2 (by rw [el])
        rw [show (lanR S).2.1 = (stmR S.2.2.1.2 S.2.2.1.1 (sP S.2.2.1.2 S.2.2.1.1 k)).2 from by rw [el]] at this
        refine xwp_go g1 [60] 100 _ _ _ _ ?_
        refine And.intro (fun _ => ?_) (fun h => absurd rfl h)
        exact And.intro (fun _ => this) (fun h => absurd rfl h)
      | true =>
        rw [if_pos hok] at el
        obtain ⟨l1, l2⟩ := stm_len hok
        obtain ⟨m1, m2, m3⟩ := k3 hok
        refine xwp_go g1 [12] 100 _ _ _ _ ?_
        refine And.intro (fun h => absurd h (by decide)) (fun _ => ?_)
        have := ih F8 F9 F10 z2 (by rw [el, show 40 - (k + 1) = 39 - k by omega]; rfl) (by show 3 * (k + 1) ≤ (stmR S.2.2.1.2 S.2.2.1.1 (sP S.2.2.1.2 S.2.2.1.1 k)).2; omega) l2 (fun j hj => ?_)
        · rw [← nI_1] at this
          exact this
        · by_cases e : j = k
          · subst e
            exact ⟨hok, m1, m2, m3⟩
          · obtain ⟨n1, n2, n3, n4⟩ := hno j (by omega)
            exact ⟨n1, by rw [(k1 j (by omega)).1]; exact n2, by rw [(k1 j (by omega)).2]; exact n3, toldF_keep (k := k) n4 (by omega) (fun x hx => k2 x hx)⟩
    refine xwp_go g1 [60, 34] 100 _ _ _ _ ?_
    refine And.intro (fun h => absurd h (by decide)) (fun _ => ?_)
    refine And.intro (fun h => ?_) (fun h => ?_)
    · have h : nI (sP S.2.2.1.2 S.2.2.1.1 k) < s 3 := h
      rw [h3, nI_ltI (by omega) (by omega)] at h
      exact body (Or.inr h)
    · have h : ¬ nI (sP S.2.2.1.2 S.2.2.1.1 k) < s 3 := h
      rw [h3, nI_ltI (by omega) (by omega)] at h
      refine And.intro (fun h2 => ?_) (fun h2 => ?_)
      · have h2 : ¬ nI k = 0 := h2
        rw [show (0 : Int32) = nI 0 from rfl, nI_eq (by omega) (by decide)] at h2
        rw [if_neg (by omega)] at el
        have e1 : (lanR S).1 = k := by rw [el]
        rw [if_neg (by rw [el]; exact (show ¬ true = false by decide)), e1] at g2
        exact m_lan2 hr g1 g3 (by omega) hno g2
      · have h2 : nI k = 0 := h2
        rw [show (0 : Int32) = nI 0 from rfl, nI_eq (by omega) (by decide)] at h2
        exact body (Or.inl h2)
