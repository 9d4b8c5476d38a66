/-! image, restore, judge, seeds: what they answer; the reference's -/
def spImage (S : SG) : Int32 × SG := (nI (S.1 6 0), S.1, (true, S.1), S.2.2)
def spRestore (S : SG) : Int32 × SG := if S.2.1.1 = false then rfs S (-3) else (nI (S.2.1.2 6 0), S.2.1.2, S.2)
def jdgL (q : LQ) (W : Nat → Nat) : Nat → Int32 × LQ
  | 0 => (-9, q)
  | k + 1 => if ¬ (jdgL q W k).1 = -9 then jdgL q W k else if showB ((jdgL q W k).2 6 0) (nI (W k)) = false then (nI k, (jdgL q W k).2) else
    (if wishB (projQ (jdgL q W k).2 (W k)) (laidQ (jdgL q W k).2 (W k) 0) = true then -9 else nI k, projQ (jdgL q W k).2 (W k))
def spJudge (S : SG) : Int32 × SG := ((jdgL S.1 S.2.2.2.1.2 S.2.2.2.1.1).1, S.1, S.2.1, S.2.2.1, (0, S.2.2.2.1.2), S.2.2.2.2)
def lcg (z : Int32) : Int32 := z * 1103515245 + 12345
def drw (z : Int32) (n : Nat) : Nat := z.toBitVec.toNat % 2 ^ 31 / 65536 % n
def sdL (q : LQ) (z : Int32) : Nat → Int32 × LQ × Nat
  | 0 => (z, q, 0)
  | k + 1 => (lcg (lcg (sdL q z k).1), projQ (sdL q z k).2.1 (2 ^ drw (lcg (sdL q z k).1) (q 6 0) ||| 2 ^ drw (lcg (lcg (sdL q z k).1)) (q 6 0)), (sdL q z k).2.2 + pop (laidQ (sdL q z k).2.1 (2 ^ drw (lcg (sdL q z k).1) (q 6 0) ||| 2 ^ drw (lcg (lcg (sdL q z k).1)) (q 6 0)) 0))
def spSeeds (S : SG) (n z : Int32) : Int32 × SG := if ¬ bndI n 1 40 = 0 then rfs S (bndI n 1 40) else if S.1 6 0 = 0 then rfs S (-3) else (nI (sdL S.1 z n.toNatClampNeg).2.2, S)
theorem projQ_6 (q : LQ) (set j : Nat) : projQ q set 6 j = q 6 j := projL_6 q set _ j
theorem projQ_ok {q : LQ} (h : okS q) (set : Nat) : okS (projQ q set) := by
  unfold projQ
  have key : ∀ i, i ≤ q 6 0 → okS (projL q set i) := by
    intro i
    induction i with
    | zero => intro _; exact h
    | succ i ih =>
      intro hi
      have := ih (by omega)
      cases hb : set.testBit i with
      | true => rw [projL_s hb]; exact wearQ_ok this (by rw [projL_6]; omega)
      | false => rw [projL_n hb]; exact this
  exact key _ (Nat.le_refl _)
theorem jdg_6 (q : LQ) (W : Nat → Nat) (j : Nat) : ∀ k, (jdgL q W k).2 6 j = q 6 j
  | 0 => rfl
  | k + 1 => by
    have ih := jdg_6 q W j k
    unfold jdgL
    split
    · exact ih
    · split
      · exact ih
      · show projQ _ _ 6 j = _
        rw [projQ_6]; exact ih
theorem jdg_ok {q : LQ} (h : okS q) (W : Nat → Nat) : ∀ k, okS (jdgL q W k).2
  | 0 => h
  | k + 1 => by
    have ih := jdg_ok h W k
    unfold jdgL
    split
    · exact ih
    · split
      · exact ih
      · exact projQ_ok ih _
theorem jdg_stay {q : LQ} {W : Nat → Nat} {k : Nat} (h : ¬ (jdgL q W k).1 = -9) : ∀ n, jdgL q W (k + n) = jdgL q W k
  | 0 => rfl
  | n + 1 => by
    have ih := jdg_stay h n
    show (if ¬ (jdgL q W (k + n)).1 = -9 then jdgL q W (k + n) else _) = _
    rw [ih, if_pos h]
theorem jdg_val (q : LQ) (W : Nat → Nat) : ∀ k, (jdgL q W k).1 = -9 ∨ ∃ j, j < k ∧ (jdgL q W k).1 = nI j
  | 0 => Or.inl rfl
  | k + 1 => by
    unfold jdgL
    split
    · rcases jdg_val q W k with h | ⟨j, hj, e⟩
      · exact Or.inl h
      · exact Or.inr ⟨j, by omega, e⟩
    · split
      · exact Or.inr ⟨k, by omega, rfl⟩
      · dsimp only
        split
        · exact Or.inl rfl
        · exact Or.inr ⟨k, by omega, rfl⟩
theorem showB_lt {n : Nat} {m : Nat} (hm : m < 2 ^ 31) (h : showB n (nI m) = true) : m < 2 ^ n := by
  unfold showB at h
  have h1 : setB n (nI m) = true := by
    cases hb : setB n (nI m) with
    | true => rfl
    | false => rw [hb] at h; cases h
  have := of_decide_eq_true h1
  rw [pk_tn (by omega)] at this
  exact this
theorem drwI (z : Int32) {n : Nat} (h0 : 0 < n) (hn : n ≤ 8) : (z &&& 2147483647) / 65536 - (z &&& 2147483647) / 65536 / nI n * nI n = nI (drw z n) := by
  rw [pk_and z 31 (by decide)]
  have h1 : z.toBitVec.toNat % 2 ^ 31 < 2 ^ 31 := Nat.mod_lt _ (by decide)
  rw [show (65536 : Int32) = nI 65536 from rfl, pk_div h1 (by decide) (by decide), pk_rem (Nat.lt_of_le_of_lt (Nat.div_le_self _ _) h1) h0 (by omega)]
  rfl
theorem drw_lt (z : Int32) {n : Nat} (h0 : 0 < n) : drw z n < n := Nat.mod_lt _ h0
theorem two_lt {a b n : Nat} (ha : a < n) (hb : b < n) : 2 ^ a ||| 2 ^ b < 2 ^ n := Nat.or_lt_two_pow (Nat.pow_lt_pow_right (by decide) ha) (Nat.pow_lt_pow_right (by decide) hb)
theorem sd_6 (q : LQ) (z : Int32) (j : Nat) : ∀ k, (sdL q z k).2.1 6 j = q 6 j
  | 0 => rfl
  | k + 1 => by
    show projQ _ _ 6 j = _
    rw [projQ_6, sd_6 q z j k]
theorem keptA_keep {q : LQ} {f F : Nat → Int32} (h : keptA q f 0) (same : ∀ j, j < 49 → F j = f j) : keptA q F 0 := by
  obtain ⟨k1, k2, k3, k4, k5, k6⟩ := h
  have p8 := k1.1
  have p6 := k1.2.1
  refine ⟨k1, fun i hi => ?_, fun i hi => ?_, ?_, ?_, ?_⟩
  · rw [same _ (by omega), same _ (by omega), same _ (by omega), same _ (by omega), same _ (by omega)]
    exact k2 i hi
  · rw [same _ (by omega)]; exact k3 i hi
  · rw [same _ (by omega)]; exact k4
  · rw [same _ (by omega)]; exact k5
  · rw [same _ (by omega)]; exact k6
theorem m_image (d : Nat) {S : SG} {a : Nat → Nat → Int32} {s : Nat → Int32} (hr : relM S a s) : xCt xMs (d + 3) nX6_image [.ref 0] (eM a s) (pMs (spImage S)) := by
  refine xV (M := mX6_image) rfl rfl rfl rfl rfl pX6_image rfl (fun G g1 g2 g3 => ?_)
  refine xwp_go g1 [] 100 _ _ _ _ ?_
  refine And.intro (Or.inr rfl) ?_
  refine xcMP (G := G) g3 (m_keepAll d (s := sU s 6 1) hr.1 (o := 0) (by decide)) (fun v w hp => ⟨_, _, hp.2.choose_spec.choose_spec.2.2.2⟩) (fun v a' s' hp => ?_)
  obtain ⟨rfl, F, s2, h1, h2, h3, h4⟩ := hp
  rw [h4]
  refine xwp_go g1 [] 100 _ _ _ _ ?_
  obtain ⟨r1, r2, r3, r4, r5, r6⟩ := hr
  have e0 : s2 0 = s 0 := h3 0 (by decide) (by decide)
  have e1 : s2 1 = s 1 := h3 1 (by decide) (by decide)
  have e2 : s2 2 = s 2 := h3 2 (by decide) (by decide)
  have e3 : s2 3 = s 3 := h3 3 (by decide) (by decide)
  have e15 : s2 15 = s 15 := h3 15 (by decide) (by decide)
  have e6 : s2 6 = 1 := h3 6 (by decide) (by decide)
  refine xri' (G := G) g2 rfl ⟨by rw [e0, r1.2.2.2.1]; rfl, aU a 11 F, s2, ⟨?_, r2, ?_, ?_, e6, fun _ => h1⟩, rfl⟩
  · obtain ⟨q1, q2, q3, q4, q5, q6⟩ := r1
    exact ⟨q1, q2, q3, by rw [e0]; exact q4, by rw [e1]; exact q5, by rw [e2]; exact q6⟩
  · rw [e3]; exact r3
  · rw [e15]; exact r4
theorem m_restore (d : Nat) {S : SG} {a : Nat → Nat → Int32} {s : Nat → Int32} (hr : relM S a s) : xCt xMs (d + 3) nX6_restore [.ref 0] (eM a s) (pMs (spRestore S)) := by
  refine xV (M := mX6_restore) rfl rfl rfl rfl rfl pX6_restore rfl (fun G g1 g2 g3 => ?_)
  unfold spRestore at g2
  refine xwp_go g1 [] 100 _ _ _ _ ?_
  refine And.intro (fun h => ?_) (fun h => ?_) <;> rw [hr.2.2.2.2.1, bI_0] at h
  · rw [if_neg h] at g2
    have hk := hr.2.2.2.2.2 (Bool.not_eq_false _ ▸ h)
    refine xcMP (G := G) g3 (m_backAll d (a := a) (s := s) (o := 0) (by decide) hk) (fun v w hp => ⟨_, _, hp.2.choose_spec.choose_spec.2.2.2⟩) (fun v a' s' hp => ?_)
    obtain ⟨rfl, a2, s2, h1, h2, h3, h4⟩ := hp
    rw [h4]
    refine xwp_go g1 [] 100 _ _ _ _ ?_
    obtain ⟨r1, r2, r3, r4, r5, r6⟩ := hr
    refine xri' (G := G) g2 rfl ⟨by rw [h1.2.2.2.1], a2, s2, ⟨h1, ?_, ?_, ?_, ?_, ?_⟩, rfl⟩
    · rw [h2 6 (by decide)]; exact r2
    · rw [h2 7 (by decide), h3 3 (by decide) (by decide) (by decide)]; exact r3
    · rw [h2 15 (by decide), h3 15 (by decide) (by decide) (by decide)]; exact r4
    · rw [h3 6 (by decide) (by decide) (by decide)]; exact r5
    · rw [h2 11 (by decide)]; exact r6
  · rw [if_pos h] at g2
    refine xcMW (G := G) g3 (m_no (d + 1) a s (why := -3) (k := 3) (by decide) (by decide)) ?_
    refine xwp_go g1 [] 100 _ _ _ _ ?_
    exact xri' (G := G) g2 rfl ⟨rfl, _, s, relM_no (k := 3) hr, rfl⟩
theorem m_judge (d : Nat) {S : SG} {a : Nat → Nat → Int32} {s : Nat → Int32} (hr : relM S a s) : xCt xMs (d + 5) nX6_judge [.ref 0] (eM a s) (pMs (spJudge S)) := by
  obtain ⟨r1, r2, r3, ⟨r4, r40, r41⟩, r5, r6⟩ := hr
  have hl := lt256 r1.1
  refine xV (M := mX6_judge) rfl rfl rfl rfl rfl pX6_judge rfl (fun G g1 g2 g3 => ?_)
  refine xwp_go g1 [] 100 _ _ _ _ ?_
  refine xcMP (G := G) g3 (m_keepAll (d + 2) (s := sU s 15 0) r1 (o := 1) (by decide)) (fun v w hp => ⟨_, _, hp.2.choose_spec.choose_spec.2.2.2⟩) (fun v a' s' hp => ?_)
  obtain ⟨rfl, F, s2, h1, h2, h3, h4⟩ := hp
  rw [h4]
  have e0 : s2 0 = s 0 := h3 0 (by decide) (by decide)
  have e1 : s2 1 = s 1 := h3 1 (by decide) (by decide)
  have e2 : s2 2 = s 2 := h3 2 (by decide) (by decide)
  have e3 : s2 3 = s 3 := h3 3 (by decide) (by decide)
  have e15 : s2 15 = 0 := h3 15 (by decide) (by decide)
  have e6 : s2 6 = s 6 := h3 6 (by decide) (by decide)
  have hrel : relS S.1 (aU a 11 F) s2 := by
    obtain ⟨q1, q2, q3, q4, q5, q6⟩ := r1
    exact ⟨q1, q2, q3, by rw [e0]; exact q4, by rw [e1]; exact q5, by rw [e2]; exact q6⟩
  have leave : ∀ (y : Int32) (z : Option Value) (a1 : Nat → Nat → Int32), y = (jdgL S.1 S.2.2.2.1.2 S.2.2.2.1.1).1 → sameM (aU a 11 F) a1 → G 68 [some (.ref 0), some (.int (s 15)), some (.int y), z] [] (eM a1 s2) := by
    intro y z a1 hy hsm
    have e11 : a1 11 = F := hsm 11 (by decide)
    refine xwp_go g1 [] 100 _ _ _ _ ?_
    refine xcMP (G := G) g3 (m_backAll (d + 2) (q := S.1) (a := a1) (s := s2) (o := 1) (by decide) (by rw [e11]; exact h1)) (fun v w hp => ⟨_, _, hp.2.choose_spec.choose_spec.2.2.2⟩) (fun v a' s' hp => ?_)
    obtain ⟨rfl, a3, s3, g4, g5, g6, g7⟩ := hp
    rw [g7]
    refine xwp_go g1 [] 100 _ _ _ _ ?_
    have em : ∀ r, 6 ≤ r → r ≠ 11 → a3 r = a r := fun r h hne => by rw [g5 r h, hsm r h]; exact aU_ne hne
    refine xri' (G := G) g2 rfl ⟨by rw [hy]; rfl, a3, s3, ⟨g4, ?_, ?_, ⟨?_, Nat.zero_le _, fun i hi => absurd hi (Nat.not_lt_zero i)⟩, ?_, fun hh => ?_⟩, rfl⟩
    · rw [em 6 (by decide) (by decide)]; exact r2
    · rw [em 7 (by decide) (by decide), g6 3 (by decide) (by decide) (by decide), e3]; exact r3
    · rw [g6 15 (by decide) (by decide) (by decide)]; exact e15
    · rw [g6 6 (by decide) (by decide) (by decide), e6]; exact r5
    · rw [g5 11 (by decide), e11]
      exact keptA_keep (r6 hh) (fun j hj => h2 j (Or.inl (by omega)))
  refine xwp_go g1 [21] 100 _ _ _ _ ?_
  refine up (k := S.2.2.2.1.1) (P := fun k => ∀ x y a1, x = nI k → y = (jdgL S.1 S.2.2.2.1.2 k).1 → relS (jdgL S.1 S.2.2.2.1.2 k).2 a1 s2 → sameM (aU a 11 F) a1 → G 21 [some (.ref 0), some (.int (s 15)), some (.int y), some (.int x)] [] (eM a1 s2)) ?_ ?_ 0 (Nat.zero_le _) _ _ _ rfl rfl hrel (fun _ _ => rfl)
  · intro x y a1 hx hy hq hsm
    subst hx
    refine xwp_go g1 [21, 68] 100 _ _ _ _ ?_
    refine And.intro (fun _ => leave _ _ _ hy hsm) (fun h => ?_)
    rw [r4] at h
    exact absurd (nI_le (Nat.le_refl _) (by omega)) h
  · intro k hk ih x y a1 hx hy hq hsm
    subst hx
    have es : jdgL S.1 S.2.2.2.1.2 (k + 1) = if ¬ (jdgL S.1 S.2.2.2.1.2 k).1 = -9 then jdgL S.1 S.2.2.2.1.2 k else if showB ((jdgL S.1 S.2.2.2.1.2 k).2 6 0) (nI (S.2.2.2.1.2 k)) = false then (nI k, (jdgL S.1 S.2.2.2.1.2 k).2) else
    (if wishB (projQ (jdgL S.1 S.2.2.2.1.2 k).2 (S.2.2.2.1.2 k)) (laidQ (jdgL S.1 S.2.2.2.1.2 k).2 (S.2.2.2.1.2 k) 0) = true then -9 else nI k, projQ (jdgL S.1 S.2.2.2.1.2 k).2 (S.2.2.2.1.2 k)) := rfl
    refine xwp_go g1 [21, 68] 100 _ _ _ _ ?_
    refine And.intro (fun h => ?_) (fun _ => ?_)
    · rw [r4] at h
      exact absurd h (nI_ge hk (by omega))
    refine And.intro (fun h => ?_) (fun h => ?_)
    · refine leave _ _ _ ?_ hsm
      have hne : ¬ (jdgL S.1 S.2.2.2.1.2 k).1 = -9 := fun e => by rw [hy, e] at h; exact absurd h (by decide)
      have := jdg_stay hne (S.2.2.2.1.1 - k)
      rw [show k + (S.2.2.2.1.1 - k) = S.2.2.2.1.1 by omega] at this
      rw [this]; exact hy
    have he : (jdgL S.1 S.2.2.2.1.2 k).1 = -9 := by
      rcases jdg_val S.1 S.2.2.2.1.2 k with e | ⟨j, hj, e⟩
      · exact e
      · rw [hy, e] at h
        exact absurd (nI_pos' (by omega)) h
    rw [if_neg (fun z => z he)] at es
    have hin : vp_in (nI k) 12 := vp_in_nI (by omega) (by decide)
    have hW : a1 15 (nI k).toNatClampNeg = nI (S.2.2.2.1.2 k) := by
      rw [nI_clamp (by omega), hsm 15 (by decide), aU_ne (by decide)]
      exact (r41 k hk).1
    have hW255 := (r41 k hk).2
    refine And.intro hin ?_
    refine xcM (G := G) g3 (agr1 hW (m_isShow (d + 2) hq (nI (S.2.2.2.1.2 k)))) ?_
    refine xwp_go g1 [21, 68] 100 _ _ _ _ ?_
    refine And.intro (fun h' => ?_) (fun h' => ?_) <;> rw [bI_0] at h'
    · rw [if_pos h'] at es
      exact ih _ _ a1 (nI_1 k) (by rw [es]) (by rw [es]; exact hq) hsm
    · rw [if_neg h'] at es
      have hlt := showB_lt (by omega) (Bool.not_eq_false _ ▸ h')
      rw [jdg_6] at hlt
      refine And.intro hin ?_
      refine xcMP (G := G) g3 (agr1 hW (m_projects d hq (set := S.2.2.2.1.2 k) (by omega))) (fun v w hp => ⟨_, _, hp.2.choose_spec.2.2⟩) (fun v a' s' hp => ?_)
      obtain ⟨rfl, a4, q4, q5, q6⟩ := hp
      rw [q6]
      refine xwp_go g1 [21, 68] 100 _ _ _ _ ?_
      refine xcM (G := G) g3 (m_isWish (d + 3) q4 (laidQ_lt hq.1 _ _)) ?_
      refine xwp_go g1 [21, 68] 100 _ _ _ _ ?_
      have hsm4 : sameM (aU a 11 F) a4 := fun r h => by rw [q5 r h, hsm r h]
      refine And.intro (fun h5 => ?_) (fun h5 => ?_) <;> rw [bI_0] at h5
      · rw [if_pos (Bool.not_eq_false _ ▸ h5)] at es
        refine ih _ _ a4 (nI_1 k) ?_ (by rw [es]; exact q4) hsm4
        rw [es, hy, he]
      · rw [if_neg (by rw [h5]; decide)] at es
        exact ih _ _ a4 (nI_1 k) (by rw [es]) (by rw [es]; exact q4) hsm4
theorem m_seeds (d : Nat) {S : SG} {a : Nat → Nat → Int32} {s : Nat → Int32} (hr : relM S a s) (n z : Int32) : xCt xMs (d + 5) nX6_seeds [.ref 0, .int n, .int z] (eM a s) (pMs (spSeeds S n z)) := by
  have hr' := hr
  obtain ⟨r1, r2, r3, r4, r5, r6⟩ := hr
  have hl := lt256 r1.1
  have p8 := r1.1.1
  refine xV (M := mX6_seeds) rfl rfl rfl rfl rfl pX6_seeds rfl (fun G g1 g2 g3 => ?_)
  unfold spSeeds at g2
  refine xwp_go g1 [] 100 _ _ _ _ ?_
  refine xcallR (G := G) g3 [] (m_bound (d + 3) [] n 1 40) ?_
  refine xwp_go g1 [] 100 _ _ _ _ ?_
  refine And.intro (fun h => ?_) (fun h => ?_)
  · rw [if_pos h] at g2
    refine And.intro (fun h' => absurd h' h) (fun _ => ?_)
    refine xcMW (G := G) g3 (m_no (d + 3) a s (bnd_k h).1 (bnd_k h).2) ?_
    refine xwp_go g1 [] 100 _ _ _ _ ?_
    exact xri' (G := G) g2 rfl ⟨rfl, _, s, relM_no hr', rfl⟩
  rw [if_neg (fun z => z h)] at g2
  obtain ⟨nn, hn1, hn40, rfl⟩ := bnd_0 (l := 1) (m := 40) (by decide) (by decide) h
  refine And.intro (fun h0 => ?_) (fun h0 => ?_) <;> rw [r1.2.2.2.1, show (0 : Int32) = nI 0 from rfl, nI_eq (by omega) (by decide)] at h0
  · rw [if_neg h0, nI_clamp (by omega)] at g2
    refine And.intro (fun _ => ?_) (fun h' => absurd h h')
    generalize bndI (nI nn) 1 40 = why
    refine xcMP (G := G) g3 (m_keepAll (d + 2) (s := s) r1 (o := 1) (by decide)) (fun v w hp => ⟨_, _, hp.2.choose_spec.choose_spec.2.2.2⟩) (fun v a' s' hp => ?_)
    obtain ⟨rfl, F, s2, h1, h2, h3, h4⟩ := hp
    rw [h4]
    have e0 : s2 0 = s 0 := h3 0 (by decide) (by decide)
    have e1 : s2 1 = s 1 := h3 1 (by decide) (by decide)
    have e2 : s2 2 = s 2 := h3 2 (by decide) (by decide)
    have hrel : relS S.1 (aU a 11 F) s2 := by
      obtain ⟨q1, q2, q3, q4, q5, q6⟩ := r1
      exact ⟨q1, q2, q3, by rw [e0]; exact q4, by rw [e1]; exact q5, by rw [e2]; exact q6⟩
    have hs0 : s2 0 = nI (S.1 6 0) := by rw [e0]; exact r1.2.2.2.1
    refine xwp_go g1 [47] 100 _ _ _ _ ?_
    refine up (k := nn) (P := fun k => ∀ x y zz a1 u7 u8, x = nI k → zz = (sdL S.1 z k).1 → y = nI (sdL S.1 z k).2.2 → relS (sdL S.1 z k).2.1 a1 s2 → sameM (aU a 11 F) a1 → G 47 [some (.ref 0), some (.int (nI nn)), some (.int z), some (.int why), some (.int zz), some (.int y), some (.int x), u7, u8] [] (eM a1 s2)) ?_ ?_ 0 (Nat.zero_le _) _ _ _ _ _ _ rfl rfl rfl hrel (fun _ _ => rfl)
    · intro x y zz a1 u7 u8 hx hz hy hq hsm
      subst hx; subst hy; subst hz
      have e11 : a1 11 = F := hsm 11 (by decide)
      refine xwp_go g1 [47] 100 _ _ _ _ ?_
      refine And.intro (fun _ => ?_) (fun h => absurd (nI_le (Nat.le_refl _) (by omega)) h)
      refine xcMP (G := G) g3 (m_backAll (d + 2) (q := S.1) (a := a1) (s := s2) (o := 1) (by decide) (by rw [e11]; exact h1)) (fun v w hp => ⟨_, _, hp.2.choose_spec.choose_spec.2.2.2⟩) (fun v a' s' hp => ?_)
      obtain ⟨rfl, a3, s3, g4, g5, g6, g7⟩ := hp
      rw [g7]
      refine xwp_go g1 [] 100 _ _ _ _ ?_
      have em : ∀ r, 6 ≤ r → r ≠ 11 → a3 r = a r := fun r h hne => by rw [g5 r h, hsm r h]; exact aU_ne hne
      have es : ∀ r, 3 ≤ r → r ≠ 7 → r ≠ 8 → s3 r = s r := fun r h h7 h8 => by rw [g6 r h h7 h8, h3 r h7 h8]
      refine xri' (G := G) g2 rfl ⟨rfl, a3, s3, ⟨g4, ?_, ?_, ?_, ?_, fun hh => ?_⟩, rfl⟩
      · rw [em 6 (by decide) (by decide)]; exact r2
      · rw [em 7 (by decide) (by decide), es 3 (by decide) (by decide) (by decide)]; exact r3
      · rw [em 15 (by decide) (by decide), es 15 (by decide) (by decide) (by decide)]; exact r4
      · rw [es 6 (by decide) (by decide) (by decide)]; exact r5
      · rw [g5 11 (by decide), e11]
        exact keptA_keep (r6 hh) (fun j hj => h2 j (Or.inl (by omega)))
    · intro k hk ih x y zz a1 u7 u8 hx hz hy hq hsm
      subst hx; subst hy; subst hz
      refine xwp_go g1 [47] 100 _ _ _ _ ?_
      refine And.intro (fun h => absurd h (nI_ge hk (by omega))) (fun _ => ?_)
      have hne : ¬ s2 0 = 0 := by rw [hs0]; exact nI_ne0 (by omega) (by omega)
      refine And.intro (by decide) (And.intro hne (And.intro (by decide) (And.intro hne ?_)))
      have d1 := drw_lt (lcg (sdL S.1 z k).1) (n := S.1 6 0) (by omega)
      have d2 := drw_lt (lcg (lcg (sdL S.1 z k).1)) (n := S.1 6 0) (by omega)
      have hset := two_lt d1 d2
      have eset : (1 : Int32) <<< (((lcg (sdL S.1 z k).1 &&& 2147483647) / 65536 - (lcg (sdL S.1 z k).1 &&& 2147483647) / 65536 / s2 0 * s2 0) &&& 31) ||| (1 : Int32) <<< (((lcg (lcg (sdL S.1 z k).1) &&& 2147483647) / 65536 - (lcg (lcg (sdL S.1 z k).1) &&& 2147483647) / 65536 / s2 0 * s2 0) &&& 31) = nI (2 ^ drw (lcg (sdL S.1 z k).1) (S.1 6 0) ||| 2 ^ drw (lcg (lcg (sdL S.1 z k).1)) (S.1 6 0)) := by
        rw [hs0, drwI _ (by omega) p8, drwI _ (by omega) p8, nI_pow (by omega), nI_pow (by omega), fa_or]
      refine xcMP (G := G) g3 (agr1 eset (m_projects d hq (by omega))) (fun v w hp => ⟨_, _, hp.2.choose_spec.2.2⟩) (fun v a' s' hp => ?_)
      obtain ⟨rfl, a4, q4, q5, q6⟩ := hp
      rw [q6]
      refine xwp_go g1 [47] 100 _ _ _ _ ?_
      refine xcallR (G := G) g3 [] (m_bits (d + 3) [] (laidQ_lt hq.1 _ _)) ?_
      refine xwp_go g1 [47] 100 _ _ _ _ ?_
      exact ih _ _ _ a4 _ _ (nI_1 k) rfl (by rw [nI_add]; rfl) q4 (fun r h => by rw [q5 r h, hsm r h])
  · rw [if_pos h0] at g2
    refine And.intro (fun h' => absurd h' (by decide)) (fun _ => ?_)
    refine xcMW (G := G) g3 (m_no (d + 3) a s (why := -3) (k := 3) (by decide) (by decide)) ?_
    refine xwp_go g1 [] 100 _ _ _ _ ?_
    exact xri' (G := G) g2 rfl ⟨rfl, _, s, relM_no (k := 3) hr', rfl⟩
