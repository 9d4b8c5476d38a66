/-! the class's Letters: toldTo; the class's lantern -/
theorem lan_all {T : Nat → Nat} {N : Nat} : ∀ f k, sP T N k ≤ N → N < sP T N k + 3 * f → (lanK T N f k (sP T N k)).2.2 = true → k ≤ (lanK T N f k (sP T N k)).1 ∧ (∀ j, k ≤ j → j < (lanK T N f k (sP T N k)).1 → (stmR T N (sP T N j)).1 = true) ∧ sP T N (lanK T N f k (sP T N k)).1 = N ∧ 0 < (lanK T N f k (sP T N k)).1
  | 0, k, h, hf, _ => by omega
  | f + 1, k, hj, hf, hl => by
    have el : lanK T N (f + 1) k (sP T N k) = if k = 0 ∨ sP T N k < N then (if (stmR T N (sP T N k)).1 = true then lanK T N f (k + 1) (sP T N (k + 1)) else (k, (stmR T N (sP T N k)).2, false)) else (k, sP T N k, true) := rfl
    by_cases hgo : k = 0 ∨ sP T N k < N
    · rw [if_pos hgo] at el
      cases hok : (stmR T N (sP T N k)).1 with
      | true =>
        rw [if_pos hok] at el
        obtain ⟨l1, l2⟩ := stm_len hok
        have ek : sP T N (k + 1) = (stmR T N (sP T N k)).2 := rfl
        rw [el] at hl ⊢
        obtain ⟨c1, c2, c3, c4⟩ := lan_all f (k + 1) (by omega) (by omega) hl
        refine ⟨by omega, fun j h1 h2 => ?_, c3, c4⟩
        by_cases e : j = k
        · rw [e]; exact hok
        · exact c2 j (by omega) h2
      | false =>
        rw [if_neg (by rw [hok]; decide)] at el
        rw [el] at hl
        cases hl
    · rw [if_neg hgo] at el
      rw [el]
      exact ⟨Nat.le_refl _, fun j h1 h2 => absurd h2 (Nat.not_lt.mpr h1), by show sP T N k = N; omega, by show 0 < k; omega⟩
theorem sP_mono {T : Nat → Nat} {N K : Nat} (h : ∀ j, j < K → (stmR T N (sP T N j)).1 = true) : ∀ j, j ≤ K → 3 * j ≤ sP T N j ∧ (0 < j → sP T N j ≤ N)
  | 0, _ => ⟨Nat.zero_le _, fun h => absurd h (Nat.lt_irrefl 0)⟩
  | j + 1, hj => by
    have ih := sP_mono h j (by omega)
    obtain ⟨l1, l2⟩ := stm_len (h j (by omega))
    have ek : sP T N (j + 1) = (stmR T N (sP T N j)).2 := rfl
    exact ⟨by omega, fun _ => by omega⟩
theorem agq {d c r r2 : Nat} {ws : xH} {P : xPost} {x x2 y2 : Int32} (e2 : x2 = y2) (h : xCt xMs d c [.ref r, .ref r2, .int x, .int y2] ws P) : xCt xMs d c [.ref r, .ref r2, .int x, .int x2] ws P := e2 ▸ h
theorem neg_n0 {n : Nat} (h : n ≤ 80) : -1000 - nI n ≠ 0 := (show ∀ m : Fin 81, -1000 - nI m.1 ≠ 0 by decide +kernel) ⟨n, by omega⟩
theorem neg_le0 {n : Nat} (h : n ≤ 80) : -2000 - nI n ≤ 0 := (show ∀ m : Fin 81, -2000 - nI m.1 ≤ 0 by decide +kernel) ⟨n, by omega⟩
theorem xputTa (f : Nat → Int32) (t : Int32) (a a' : Nat → Nat → Int32) (s s' : Nat → Int32) : xput [0, 1, 2, 3, 4, 5, 6, 7, 8] [0, 1, 2, 3, 4, 5, 6, 7, 8] (eTL f t a' s') (eTL f t a s) = eTL f t a' s' := rfl
def tolP (T : Nat → Nat) (N : Nat) (q : LQ) (K : Nat) (f : Nat → Int32) (t : Int32) : xPost := fun v w => ∃ r a' s', v = some (.int r) ∧ w = eTL f t a' s' ∧ ((∃ p, p ≤ N ∧ (runA T N q K).1 = some p ∧ r = -2000 - nI p) ∨ ((runA T N q K).1 = none ∧ r = nI K ∧ relS (runA T N q K).2 a' s'))
theorem t_toldTo (d : Nat) {T : Nat → Nat} {N : Nat} {f : Nat → Int32} {t : Int32} (ht : tapeT T N f t) {q : LQ} {a : Nat → Nat → Int32} {s : Nat → Int32} (hr : relS q a s) {K : Nat} (hok : ∀ j, j < K → (stmR T N (sP T N j)).1 = true) (hK : sP T N K = N) (hK0 : 0 < K) : xCt xMs (d + 5) nX2_toldTo [.ref 0, .ref 2] (eTL f t a s) (tolP T N q K f t) := by
  have ht' := ht
  obtain ⟨h1, h80, hT⟩ := ht
  have hm := sP_mono hok
  refine xV (M := mX2_toldTo) rfl rfl rfl rfl rfl pX2_toldTo rfl (fun G g1 g2 g3 => ?_)
  refine xwp_go g1 [7] 100 _ _ _ _ ?_
  refine up (k := N) (P := fun i => ∀ x y z k a1 s1 q1, x = nI i → y = nI (sP T N k) → z = nI k → k ≤ K → sP T N k ≤ i → (k < K → i < sP T N (k + 1)) → runA T N q k = (none, q1) → relS q1 a1 s1 → G 7 [some (.ref 0), some (.ref 2), some (.int z), some (.int y), some (.int x)] [] (eTL f t a1 s1)) ?_ ?_ 0 (Nat.zero_le _) _ _ _ 0 a s q rfl rfl rfl (by omega) (Nat.le_refl _) (fun hh => by have := (hm 1 (by omega)).1; show 0 < sP T N 1; omega) rfl hr
  · intro x y z k a1 s1 q1 hx hy hz hk hs hn hrun hq
    subst hx; subst hy; subst hz
    have ek : k = K := by
      rcases Nat.lt_or_ge k K with c | c
      · have := hn c
        have := (hm (k + 1) c).2 (by omega)
        omega
      · omega
    subst ek
    refine xwp_go g1 [7] 100 _ _ _ _ ?_
    refine And.intro (fun _ => ?_) (fun h => ?_)
    · exact xri' (G := G) g2 rfl ⟨_, a1, s1, rfl, rfl, Or.inr ⟨by rw [hrun], rfl, by rw [hrun]; exact hq⟩⟩
    · rw [h1] at h
      exact absurd (nI_le (Nat.le_refl _) (by omega)) h
  · intro i hi ih x y z k a1 s1 q1 hx hy hz hk hs hn hrun hq
    subst hx; subst hy; subst hz
    have hkK : k < K := by
      rcases Nat.lt_or_ge k K with c | c
      · exact c
      · have : k = K := by omega
        subst this
        omega
    have hn := hn hkK
    have hks := hok k hkK
    have hsk : sP T N (k + 1) = (stmR T N (sP T N k)).2 := rfl
    obtain ⟨l1, l2⟩ := stm_len hks
    have h59 := (stm_ok hks).2.2
    have hno := stm_no hks
    obtain ⟨t1, t2⟩ := hT i hi
    refine xwp_go g1 [7, 31, 56] 100 _ _ _ _ ?_
    refine And.intro (fun h => ?_) (fun _ => ?_)
    · rw [h1] at h
      exact absurd h (nI_ge hi (by omega))
    refine And.intro (vp_in_nI (by omega) (by decide)) ?_
    refine And.intro (fun h => ?_) (fun h => ?_) <;> rw [nI_clamp (by omega), t1, show (59 : Int32) = nI 59 from rfl, nI_eq (by omega) (by decide)] at h
    · have ei : i = (stmR T N (sP T N k)).2 - 1 := by
        rcases Nat.lt_or_ge i ((stmR T N (sP T N k)).2 - 1) with c | c
        · exact absurd h (hno i hs c)
        · omega
      have ein : nI i = nI ((stmR T N (sP T N k)).2 - 1) := congrArg nI ei
      have es : runA T N q (k + 1) = match appQ T N (sP T N k) q1 with
        | some q2 => (none, q2)
        | none => (some (sP T N k), q1) := by
        show (match (runA T N q k).1 with
          | some p => (some p, (runA T N q k).2)
          | none => _) = _
        rw [hrun]
        rfl
      refine xwp_go g1 [7] 100 _ _ _ _ ?_
      refine xcall (G := G) g3 [0, 1, 2, 3, 4, 5, 6, 7, 8] (agq ein (t_statementComes d ht' hq hks)) (fun v wc' hp _ => ?_)
      obtain ⟨rfl, a2, s2, c1, rfl⟩ := hp
      rw [xputTa]
      cases ha : appQ T N (sP T N k) q1 with
      | some q2 =>
        rw [ha] at es
        refine xwp_go g1 [7] 100 _ _ _ _ ?_
        refine And.intro (fun _ => ?_) (fun h => absurd h (show ¬ (1 : Int32) = 0 by decide))
        have e1 : nI i + 1 = nI (sP T N (k + 1)) := by rw [nI_1]; exact congrArg nI (by omega)
        exact ih _ _ _ (k + 1) a2 s2 q2 (nI_1 i) e1 (nI_1 k) hkK (by omega) (fun hh => by have := (stm_len (hok (k + 1) hh)).1; show i + 1 < (stmR T N (sP T N (k + 1))).2; omega) es (c1 q2 ha)
      | none =>
        rw [ha] at es
        have hstop := runA_stop (T := T) (N := N) (q := q) (k := k + 1) (p := sP T N k) (by rw [es]) (K - (k + 1))
        rw [show k + 1 + (K - (k + 1)) = K by omega] at hstop
        refine xwp_go g1 [7] 100 _ _ _ _ ?_
        refine And.intro (fun h => absurd rfl h) (fun _ => ?_)
        exact xri' (G := G) g2 rfl ⟨_, a2, s2, rfl, rfl, Or.inl ⟨sP T N k, by omega, hstop, rfl⟩⟩
    · refine xwp_go g1 [7] 100 _ _ _ _ ?_
      have hne : i ≠ (stmR T N (sP T N k)).2 - 1 := fun e => h (by rw [e]; exact h59)
      exact ih _ _ _ k a1 s1 q1 (nI_1 i) rfl rfl hk (by omega) (fun _ => by omega) hrun hq
abbrev pTM : List Nat := [22, 23, 8, 9, 10, 11, 12, 13, 14]
theorem xsubTM (A : Nat → Nat → Int32) (N : Nat → Int32) : xsub pTM (eTL (A 18) (N 9) (offA A 6) (ofN N 3)) (eX A N) := rfl
theorem xputTM (A a : Nat → Nat → Int32) (N s : Nat → Int32) : xput pTM pTM (eTL (A 18) (N 9) a s) (eX A N) = eX (ptA A 6 6 a) (ptN N 3 3 s) := rfl
theorem relX_fgt {S : SG} {A : Nat → Nat → Int32} {N : Nat → Int32} (h : relX S A N) : relX (fgt S) (aU A 18 (A 18)) (sU N 9 0) := by
  obtain ⟨r1, r2, r3, r4, r5, r6⟩ := h
  exact ⟨r1, r2, ⟨rfl, Nat.zero_le _, fun i hi => absurd hi (Nat.not_lt_zero i)⟩, r4, r5, r6⟩
theorem x_lantern (d : Nat) {S : SG} {A : Nat → Nat → Int32} {N : Nat → Int32} (hr : relX S A N) : xCt xMs (d + 6) nX5_lantern [.ref 0] (eX A N) (pXs (spLantern S)) := by
  have ht : tapeT S.2.2.1.2 S.2.2.1.1 (A 18) (N 9) := hr.2.2.1
  have h80 := ht.2.1
  refine xV (M := mX5_lantern) rfl rfl rfl rfl rfl pX5_lantern rfl (fun G g1 g2 g3 => ?_)
  have leave : ∀ (y : Int32) (S' : SG) (A1 : Nat → Nat → Int32) (N1 : Nat → Int32), spLantern S = (y, fgt S') → relX S' A1 N1 → G 50 [some (.ref 0), some (.int y)] [] (eX A1 N1) := by
    intro y S' A1 N1 hy h1
    rw [hy] at g2
    refine xwp_go g1 [] 100 _ _ _ _ ?_
    refine xcall (G := G) g3 pT (t_forget (d + 4) (A1 18) (N1 9)) (fun v wc' hp _ => ?_)
    obtain ⟨rfl, rfl⟩ := hp
    rw [xputT]
    refine xwp_go g1 [] 100 _ _ _ _ ?_
    exact xri' (G := G) g2 rfl ⟨rfl, _, _, relX_fgt h1, rfl⟩
  have es : spLantern S = if (lanR S).2.2 = false then (-1000 - nI (lanR S).2.1, fgt S) else match (runA S.2.2.1.2 S.2.2.1.1 S.1 (lanR S).1).1 with
    | some p => (-2000 - nI p, fgt S)
    | none => (nI (lanR S).1, setQ (fgt S) (runA S.2.2.1.2 S.2.2.1.1 S.1 (lanR S).1).2) := rfl
  refine xwp_go g1 [] 100 _ _ _ _ ?_
  refine xcall (G := G) g3 pT (t_fault (d + 2) ht) (fun v wc' hp _ => ?_)
  obtain ⟨r, rfl, hf, rfl⟩ := hp
  rw [xputT]
  have ew : eX (aU A 18 (A 18)) (sU N 9 (N 9)) = eX A N := rfl
  rw [ew]
  have hv := flt_lan h80 hf
  by_cases hb : (lanR S).2.2 = false
  · have hv : r = -1000 - nI (lanR S).2.1 := hv.trans (if_pos hb)
    rw [if_pos hb] at es
    have hle : (lanR S).2.1 ≤ 80 := by
      have := (dfa_lan (T := S.2.2.1.2) (N := S.2.2.1.1) 40 0 0 (Nat.zero_le _) (by omega) rfl (fun i hi => by rw [show i = 0 by omega]; exact Nat.zero_le _) (fun _ => rfl) (fun z => absurd rfl z)).2 hb
      exact Nat.le_trans this.1 h80
    rw [← hv] at es
    have hn0 : r ≠ 0 := by rw [hv]; exact neg_n0 hle
    refine xwp_go g1 [50] 100 _ _ _ _ ?_
    refine And.intro (fun _ => leave r S A N es hr) (fun h => absurd h hn0)
  · have hv : r = 0 := hv.trans (if_neg hb)
    rw [if_neg hb] at es
    rw [Bool.not_eq_false] at hb
    obtain ⟨-, k1, k2, k3⟩ := lan_all (T := S.2.2.1.2) (N := S.2.2.1.1) 40 0 (Nat.zero_le _) (by show S.2.2.1.1 < 0 + 3 * 40; omega) hb
    have k1 : ∀ j, j < (lanR S).1 → (stmR S.2.2.1.2 S.2.2.1.1 (sP S.2.2.1.2 S.2.2.1.1 j)).1 = true := fun j hj => k1 j (Nat.zero_le _) hj
    have k4 := (sP_mono k1 (lanR S).1 (Nat.le_refl _)).1
    have k2 : sP S.2.2.1.2 S.2.2.1.1 (lanR S).1 = S.2.2.1.1 := k2
    have k3 : 0 < (lanR S).1 := k3
    rw [k2] at k4
    subst hv
    refine xwp_go g1 [50] 100 _ _ _ _ ?_
    refine And.intro (fun h => absurd rfl h) (fun _ => ?_)
    refine xcall (G := G) g3 pMN (c_becomes (d + 4) (a := offA A 6) (s := ofN N 3) hr.1) (fun v wc' hp _ => ?_) rfl rfl rfl rfl rfl (xsubMN A N)
    obtain ⟨rfl, a', h1, rfl⟩ := hp
    rw [xputMN]
    refine xwp_go g1 [50] 100 _ _ _ _ ?_
    refine xcall (G := G) g3 pTM (t_toldTo d ht (a := a') (s := N) h1 k1 k2 k3) (fun v wc' hp _ => ?_)
    obtain ⟨r, a2, s2, rfl, rfl, hp⟩ := hp
    have ew : xput pTM pTM (eTL (A 18) (N 9) a2 s2) (eX (ptA A 6 6 a') (ptN N 3 3 N)) = eX (ptA A 6 6 a2) (ptN N 3 3 s2) := rfl
    rw [ew]
    have hs := relX_same hr (same_mind A a2 N s2)
    rcases hp with ⟨p, hp0, hp1, rfl⟩ | ⟨hp1, rfl, hp2⟩
    · rw [hp1] at es
      refine xwp_go g1 [50] 100 _ _ _ _ ?_
      refine And.intro (fun _ => leave _ S _ _ es hs) (fun h => absurd (neg_le0 (Nat.le_trans hp0 h80)) h)
    · rw [hp1] at es
      refine xwp_go g1 [50] 100 _ _ _ _ ?_
      refine And.intro (fun h => ?_) (fun _ => ?_)
      · rw [show (0 : Int32) = nI 0 from rfl, nI_leI (by omega) (by decide)] at h
        omega
      refine xcall (G := G) g3 pNM (c_becomes (d + 4) (a := ptA A 6 6 a2) (s := ptN N 3 3 s2) hp2) (fun v wc' hp _ => ?_)
      obtain ⟨rfl, a3, h3, rfl⟩ := hp
      have ew2 : xput pNM pNM (eL2 a3 s2 a2 s2) (eX (ptA A 6 6 a2) (ptN N 3 3 s2)) = eX (ptA (ptA A 6 6 a2) 0 6 a3) (ptN (ptN N 3 3 s2) 0 3 s2) := rfl
      rw [ew2]
      obtain ⟨r1, r2, r3, r4, r5, r6⟩ := hs
      exact leave _ (setQ S (runA S.2.2.1.2 S.2.2.1.1 S.1 (lanR S).1).2) (ptA (ptA A 6 6 a2) 0 6 a3) (ptN (ptN N 3 3 s2) 0 3 s2) es ⟨h3, r2, r3, r4, r5, r6⟩
