/-! the class's calls: feed, gaps, nearest, sure, row, count, image, restore -/
def eT (f : Nat → Int32) (t : Int32) : xH := [.inr (1, [.ref 1, .int t]), .inl (80, f)]
abbrev pT : List Nat := [22, 23]
theorem xsubT (A : Nat → Nat → Int32) (N : Nat → Int32) : xsub pT (eT (A 18) (N 9)) (eX A N) := rfl
theorem xputT (A : Nat → Nat → Int32) (N : Nat → Int32) (f : Nat → Int32) (t : Int32) : xput pT pT (eT f t) (eX A N) = eX (aU A 18 f) (sU N 9 t) := rfl
theorem t_isFull (d : Nat) (f : Nat → Int32) {n : Nat} (hn : n ≤ 80) {t : Int32} (ht : t = nI n) : xCt xMs (d + 1) nX2_isFull [.ref 0] (eT f t) (xRet (bI (decide (n = 80))) (eT f t)) := by
  refine xV (M := mX2_isFull) rfl rfl rfl rfl rfl pX2_isFull rfl (fun G g1 g2 g3 => ?_)
  refine xwp_go g1 [] 100 _ _ _ _ ?_
  refine And.intro (fun h => ?_) (fun h => ?_) <;> rw [ht, show (80 : Int32) = nI 80 from rfl, nI_ltI (by omega) (by decide)] at h
  · exact xrz (G := G) g2 rfl (Or.inl rfl) (by rw [decide_eq_false (by omega)]; rfl) rfl
  · exact xrz (G := G) g2 rfl (Or.inr rfl) (by rw [decide_eq_true (by omega)]; rfl) rfl
theorem t_taken (d : Nat) (f : Nat → Int32) {n : Nat} (hn : n < 80) {t : Int32} (ht : t = nI n) (x : Int32) : xCt xMs (d + 2) nX2_taken [.ref 0, .int x] (eT f t) (xRet (nI (n + 1)) (eT (upd f n x) (nI (n + 1)))) := by
  refine xV (M := mX2_taken) rfl rfl rfl rfl rfl pX2_taken rfl (fun G g1 g2 g3 => ?_)
  refine xwp_go g1 [] 100 _ _ _ _ ?_
  refine xcallR (G := G) g3 [0, 1] (t_isFull d f (by omega) ht) ?_
  rw [decide_eq_false (by omega)]
  refine xwp_go g1 [] 100 _ _ _ _ ?_
  refine And.intro (fun h => absurd rfl h) (fun _ => ?_)
  refine And.intro (by rw [ht]; exact vp_in_nI hn (by decide)) ?_
  refine xri (G := G) g2 rfl (by rw [ht, nI_1]) ?_
  rw [ht, nI_clamp (by omega), nI_1]
  rfl
theorem x_feed (d : Nat) {S : SG} {A : Nat → Nat → Int32} {N : Nat → Int32} (hr : relX S A N) (x : Int32) : xCt xMs (d + 3) nX5_feed [.ref 0, .int x] (eX A N) (pXs (spFeed S x)) := by
  have hr' := hr
  obtain ⟨h1, h2, ⟨h3, h30, h31⟩, h4, h5, h6⟩ := hr
  refine xV (M := mX5_feed) rfl rfl rfl rfl rfl pX5_feed rfl (fun G g1 g2 g3 => ?_)
  unfold spFeed at g2
  refine xwp_go g1 [] 100 _ _ _ _ ?_
  refine xcallR (G := G) g3 [] (x_wrongNumber (d + 1) [] x 0 255) ?_
  refine xwp_go g1 [] 100 _ _ _ _ ?_
  refine And.intro (fun h => ?_) (fun h => ?_)
  · rw [if_pos h] at g2
    refine And.intro (fun h' => absurd h' h) (fun _ => ?_)
    refine xcXW (G := G) g3 (x_refused (d + 1) A N (bnd_k0 h) (bnd_k h).1 (bnd_k h).2) ?_
    refine xwp_go g1 [] 100 _ _ _ _ ?_
    exact xri' (G := G) g2 rfl ⟨rfl, _, N, relX_no hr', rfl⟩
  · rw [if_neg (fun z => z h)] at g2
    obtain ⟨m, -, hm, rfl⟩ := bnd_0 (l := 0) (m := 255) (by decide) (by decide) h
    rw [nI_clamp (by omega)] at g2
    refine xcallR (G := G) g3 pT (t_isFull (d + 1) (A 18) h30 h3) ?_
    by_cases hf : S.2.2.1.1 = 80
    · rw [if_pos hf] at g2
      rw [decide_eq_true hf]
      refine xwp_go g1 [] 100 _ _ _ _ ?_
      refine And.intro (fun h => absurd h (by decide)) (fun _ => ?_)
      refine And.intro (fun h => absurd h (by decide)) (fun _ => ?_)
      refine xcXW (G := G) g3 (x_refused (d + 1) A N (why := -6) (k := 6) (by decide) (by decide) (by decide)) ?_
      refine xwp_go g1 [] 100 _ _ _ _ ?_
      exact xri' (G := G) g2 rfl ⟨rfl, _, N, relX_no (k := 6) hr', rfl⟩
    · rw [if_neg hf] at g2
      rw [decide_eq_false hf]
      refine xwp_go g1 [] 100 _ _ _ _ ?_
      refine And.intro (fun _ => ?_) (fun h => absurd rfl h)
      refine And.intro (fun _ => ?_) (fun h' => absurd h h')
      refine xcallW (G := G) g3 pT (t_taken d (A 18) (show S.2.2.1.1 < 80 by omega) h3 (nI m)) ?_
      rw [xputT]
      refine xwp_go g1 [] 100 _ _ _ _ ?_
      refine xri' (G := G) g2 rfl ⟨rfl, aU A 18 (upd (A 18) S.2.2.1.1 (nI m)), sU N 9 (nI (S.2.2.1.1 + 1)), ⟨h1, h2, ⟨rfl, by show S.2.2.1.1 + 1 ≤ 80; omega, fun i hi => ?_⟩, h4, h5, h6⟩, rfl⟩
      show upd (A 18) S.2.2.1.1 (nI m) i = nI (if i = S.2.2.1.1 then m else S.2.2.1.2 i) ∧ (if i = S.2.2.1.1 then m else S.2.2.1.2 i) ≤ 255
      have hi : i < S.2.2.1.1 + 1 := hi
      rw [upd_at]
      by_cases e : i = S.2.2.1.1
      · rw [if_pos e, if_pos e]; exact ⟨rfl, hm⟩
      · rw [if_neg e, if_neg e]; exact h31 i (by omega)
theorem x_row (d : Nat) {S : SG} {A : Nat → Nat → Int32} {N : Nat → Int32} (hr : relX S A N) (x : Int32) : xCt xMs (d + 2) nX5_row [.ref 0, .int x] (eX A N) (pXs (spRow S x)) := by
  have hr' := hr
  obtain ⟨h1, h2, h3, ⟨h4, h40, h41⟩, h5, h6⟩ := hr
  refine xV (M := mX5_row) rfl rfl rfl rfl rfl pX5_row rfl (fun G g1 g2 g3 => ?_)
  unfold spRow at g2
  refine xwp_go g1 [] 100 _ _ _ _ ?_
  refine xcallR (G := G) g3 [] (x_wrongNumber d [] x 0 255) ?_
  refine xwp_go g1 [] 100 _ _ _ _ ?_
  refine And.intro (fun h => ?_) (fun h => ?_)
  · rw [if_pos h] at g2
    refine And.intro (fun h' => absurd h' h) (fun _ => ?_)
    refine xcXW (G := G) g3 (x_refused d A N (bnd_k0 h) (bnd_k h).1 (bnd_k h).2) ?_
    refine xwp_go g1 [] 100 _ _ _ _ ?_
    exact xri' (G := G) g2 rfl ⟨rfl, _, N, relX_no hr', rfl⟩
  · rw [if_neg (fun z => z h)] at g2
    obtain ⟨m, -, hm, rfl⟩ := bnd_0 (l := 0) (m := 255) (by decide) (by decide) h
    rw [nI_clamp (by omega)] at g2
    refine And.intro (fun h' => ?_) (fun h' => ?_) <;> rw [h4, show (12 : Int32) = nI 12 from rfl, nI_ltI (by omega) (by decide)] at h'
    · rw [if_neg (by omega)] at g2
      refine And.intro (fun _ => ?_) (fun h' => absurd h h')
      have hin : vp_in (N 17) 12 := by rw [h4]; exact vp_in_nI h' (by decide)
      have cl : (N 17).toNatClampNeg = S.2.2.2.1.1 := by rw [h4]; exact nI_clamp (by omega)
      refine And.intro hin ?_
      refine xri' (G := G) g2 rfl ⟨by rw [h4, nI_1], aU A 26 (upd (A 26) (N 17).toNatClampNeg (nI m)), sU N 17 (N 17 + 1), ⟨h1, h2, h3, ⟨by show N 17 + 1 = _; rw [h4, nI_1], by show S.2.2.2.1.1 + 1 ≤ 12; omega, fun i hi => ?_⟩, h5, h6⟩, rfl⟩
      show upd (A 26) (N 17).toNatClampNeg (nI m) i = nI (if i = S.2.2.2.1.1 then m else S.2.2.2.1.2 i) ∧ (if i = S.2.2.2.1.1 then m else S.2.2.2.1.2 i) ≤ 255
      have hi : i < S.2.2.2.1.1 + 1 := hi
      rw [cl, upd_at]
      by_cases e : i = S.2.2.2.1.1
      · rw [if_pos e, if_pos e]; exact ⟨rfl, hm⟩
      · rw [if_neg e, if_neg e]; exact h41 i (by omega)
    · rw [if_pos (by omega)] at g2
      refine And.intro (fun h => absurd h (by decide)) (fun _ => ?_)
      refine xcXW (G := G) g3 (x_refused d A N (why := -6) (k := 6) (by decide) (by decide) (by decide)) ?_
      refine xwp_go g1 [] 100 _ _ _ _ ?_
      exact xri' (G := G) g2 rfl ⟨rfl, _, N, relX_no (k := 6) hr', rfl⟩
theorem notN_tb (p i : Nat) (hi : i < 16) : (notN p).testBit i = !p.testBit i := by
  unfold notN
  rw [Nat.testBit_xor, Nat.testBit_and, show (65535 : Nat) = 2 ^ 16 - 1 from rfl, Nat.testBit_two_pow_sub_one, decide_eq_true hi]
  cases p.testBit i <;> rfl
theorem bit_n (p i : Nat) : p / 2 ^ i % 2 = cond (p.testBit i) 1 0 := by
  rw [Nat.testBit_eq_decide_div_mod_eq]
  by_cases h : p / 2 ^ i % 2 = 1
  · rw [decide_eq_true h, h]; rfl
  · rw [decide_eq_false h]
    show _ = 0
    omega
theorem popL_not (p : Nat) : ∀ k, k ≤ 16 → popL (notN p) k + popL p k = k
  | 0, _ => rfl
  | k + 1, h => by
    have ih := popL_not p k (by omega)
    show popL (notN p) k + notN p / 2 ^ k % 2 + (popL p k + p / 2 ^ k % 2) = k + 1
    rw [bit_n, bit_n, notN_tb p k (by omega)]
    cases p.testBit k
    · show popL (notN p) k + 1 + (popL p k + 0) = k + 1; omega
    · show popL (notN p) k + 0 + (popL p k + 1) = k + 1; omega
theorem pop_not (p : Nat) : pop (notN p) = 16 - pop p := by
  have := popL_not p 16 (by decide)
  unfold pop
  omega
theorem wa_k {p w m : Int32} (h : ¬ waI p w m = 0) : 0 < refK (waI p w m) ∧ refK (waI p w m) < 7 ∧ -(waI p w m) = nI (refK (waI p w m)) := by
  unfold waI at h ⊢
  split
  · next e => rw [if_pos e] at h; exact ⟨bnd_k0 h, bnd_k h⟩
  · next e =>
    unfold wwI at e ⊢
    split
    · decide
    · next e2 => rw [if_neg e2] at e; exact absurd rfl e
theorem wa_0 {p w : Int32} {m : Nat} (hm : m < 2 ^ 31) (h : waI p w (nI m) = 0) : inB w 0 (nI m) = true ∧ bndI p 0 65535 = 0 ∧ (∃ k, k ≤ m ∧ w = nI k) ∧ ∃ k, k < 65536 ∧ p = nI k := by
  unfold waI at h
  split at h
  · next e =>
    have e := wwI_0.mp e
    obtain ⟨k, -, hk, e3⟩ := bnd_0 (l := 0) (m := 65535) (by decide) (by decide) h
    obtain ⟨k2, -, hk2, e2⟩ := inB_of (l := 0) (m := m) (by decide) hm e
    exact ⟨e, h, ⟨k2, hk2, e2⟩, ⟨k, by omega, e3⟩⟩
  · next e => exact absurd h e
/-- a spec that refuses as waI does -/
theorem wa_spec {S : SG} {p w m : Int32} {X : Int32 × SG} (h : ¬ waI p w m = 0) : (if inB w 0 m = false then rfs S (-2) else if ¬ bndI p 0 65535 = 0 then rfs S (bndI p 0 65535) else X) = rfs S (waI p w m) := by
  unfold waI at h ⊢
  by_cases e : inB w 0 m = false
  · rw [if_pos e, show wwI w m = -2 from by unfold wwI; rw [if_pos e]]; rfl
  · have e' : wwI w m = 0 := by unfold wwI; rw [if_neg e]
    rw [if_pos e'] at h ⊢
    rw [if_neg e, if_pos h]
theorem wa_spec0 {S : SG} {p w m : Int32} {X : Int32 × SG} (h1 : inB w 0 m = true) (h2 : bndI p 0 65535 = 0) : (if inB w 0 m = false then rfs S (-2) else if ¬ bndI p 0 65535 = 0 then rfs S (bndI p 0 65535) else X) = X := by
  rw [if_neg (by rw [h1]; decide), if_neg (fun z => z h2)]
theorem x_gaps (d : Nat) {S : SG} {A : Nat → Nat → Int32} {N : Nat → Int32} (hr : relX S A N) (p w : Int32) : xCt xMs (d + 3) nX5_gaps [.ref 0, .int p, .int w] (eX A N) (pXs (spGaps S p w)) := by
  refine xV (M := mX5_gaps) rfl rfl rfl rfl rfl pX5_gaps rfl (fun G g1 g2 g3 => ?_)
  unfold spGaps at g2
  refine xwp_go g1 [] 100 _ _ _ _ ?_
  refine xcallR (G := G) g3 [] (x_wrongAsked d [] p w 1) ?_
  refine xwp_go g1 [] 100 _ _ _ _ ?_
  refine And.intro (fun h => ?_) (fun h => ?_)
  · obtain ⟨b1, b2, ⟨k, hk, rfl⟩, ⟨m, hm, rfl⟩⟩ := wa_0 (m := 1) (by decide) h
    rw [wa_spec0 (m := 1) b1 b2, nI_clamp (by omega)] at g2
    have e : (65535 : Int32) &&& (nI m ^^^ (-1)) = nI (notN m) := by rw [show (65535 : Int32) = nI 65535 from rfl, nI_andn]; rfl
    refine And.intro (fun h2 => ?_) (fun h2 => ?_)
    · rw [if_neg h2] at g2
      refine xcallR (G := G) g3 [] (ag1 e (c_groups d [] (notN_lt m))) ?_
      refine xwp_go g1 [] 100 _ _ _ _ ?_
      exact xri' (G := G) g2 rfl ⟨rfl, A, N, hr, rfl⟩
    · rw [if_pos h2] at g2
      refine xcallR (G := G) g3 [] (ag1 e (c_bitCount (d + 1) [] (notN_lt m))) ?_
      refine xwp_go g1 [] 100 _ _ _ _ ?_
      exact xri' (G := G) g2 rfl ⟨by rw [pop_not], A, N, hr, rfl⟩
  · rw [wa_spec h] at g2
    refine xcXW (G := G) g3 (x_refused (d + 1) A N (wa_k h).1 (wa_k h).2.1 (wa_k h).2.2) ?_
    refine xwp_go g1 [] 100 _ _ _ _ ?_
    exact xri' (G := G) g2 rfl ⟨rfl, _, N, relX_no hr, rfl⟩
theorem near_at (q : LQ) (p : Nat) : ∀ i, (nearL q p i).1 ≤ i ∧ ((nearL q p i).1 ≠ 0 → (nearL q p i).2 = pop (q 5 ((nearL q p i).1 - 1) ^^^ p))
  | 0 => ⟨Nat.le_refl _, fun h => absurd rfl h⟩
  | i + 1 => by
    have ih := near_at q p i
    have es : nearL q p (i + 1) = if pop (q 5 i ^^^ p) < (nearL q p i).2 then (i + 1, pop (q 5 i ^^^ p)) else nearL q p i := rfl
    rw [es]
    split
    · exact ⟨Nat.le_refl _, fun _ => rfl⟩
    · exact ⟨by omega, ih.2⟩
theorem x_nearest (d : Nat) {S : SG} {A : Nat → Nat → Int32} {N : Nat → Int32} (hr : relX S A N) (p w : Int32) : xCt xMs (d + 3) nX5_nearest [.ref 0, .int p, .int w] (eX A N) (pXs (spNearest S p w)) := by
  have h6 := hr.1.1.2.1
  refine xV (M := mX5_nearest) rfl rfl rfl rfl rfl pX5_nearest rfl (fun G g1 g2 g3 => ?_)
  unfold spNearest at g2
  refine xwp_go g1 [] 100 _ _ _ _ ?_
  refine xcallR (G := G) g3 [] (x_wrongAsked d [] p w 1) ?_
  refine xwp_go g1 [] 100 _ _ _ _ ?_
  refine And.intro (fun h => ?_) (fun h => ?_)
  · obtain ⟨b1, b2, ⟨k, hk, rfl⟩, ⟨m, hm, rfl⟩⟩ := wa_0 (m := 1) (by decide) h
    rw [wa_spec0 (m := 1) b1 b2, nI_clamp (by omega)] at g2
    refine xcN (G := G) g3 (c_nearestWanted d hr.1 hm) ?_
    obtain ⟨l1, l2⟩ := near_at S.1 m (S.1 6 1)
    generalize nearL S.1 m (S.1 6 1) = nl at *
    refine xwp_go g1 [] 100 _ _ _ _ ?_
    by_cases h0 : nl.1 = 0
    · rw [if_pos h0] at g2
      have hw : whI nl.1 = -1 := by unfold whI; rw [if_pos h0]
      refine And.intro (fun h3 => by rw [hw] at h3; exact absurd h3 (by decide)) (fun _ => ?_)
      exact xri' (G := G) g2 rfl ⟨rfl, A, N, hr, rfl⟩
    · rw [if_neg h0] at g2
      have hw : whI nl.1 = nI (nl.1 - 1) := by unfold whI; rw [if_neg h0]
      refine And.intro (fun _ => ?_) (fun h3 => by rw [hw] at h3; exact absurd (nI_pos' (by omega)) h3)
      refine And.intro (fun h2 => ?_) (fun h2 => ?_)
      · rw [if_neg h2] at g2
        refine xcN (G := G) g3 (agr1 hw (c_wantedPicture d hr.1 (i := nl.1 - 1) (by omega))) ?_
        refine xwp_go g1 [] 100 _ _ _ _ ?_
        have hx : S.1 5 (nl.1 - 1) ^^^ m < 65536 := Nat.xor_lt_two_pow (n := 16) (hr.1.1.2.2.2.2.2 _ (by omega)) hm
        refine xcallR (G := G) g3 [] (ag1 (fb_xorI _ _) (c_bitCount (d + 1) [] hx)) ?_
        refine xwp_go g1 [] 100 _ _ _ _ ?_
        exact xri' (G := G) g2 rfl ⟨by rw [l2 h0], A, N, hr, rfl⟩
      · rw [if_pos h2] at g2
        exact xri' (G := G) g2 rfl ⟨by rw [hw], A, N, hr, rfl⟩
  · rw [wa_spec h] at g2
    refine xcXW (G := G) g3 (x_refused (d + 1) A N (wa_k h).1 (wa_k h).2.1 (wa_k h).2.2) ?_
    refine xwp_go g1 [] 100 _ _ _ _ ?_
    exact xri' (G := G) g2 rfl ⟨rfl, _, N, relX_no hr, rfl⟩
theorem ask_eq (n : Nat) (x p w m : Int32) : (if wsI (setB n x) = 0 then waI p w m else wsI (setB n x)) = askI n x p w m := by
  unfold askI waI wwI
  cases setB n x
  · rfl
  · rw [if_pos (show wsI true = 0 from rfl), if_neg (show ¬ true = false from by decide)]
    cases inB w 0 m <;> rfl
theorem ask_k0 {n : Nat} {x p w m : Int32} (h : ¬ askI n x p w m = 0) : 0 < refK (askI n x p w m) := by
  unfold askI at h ⊢
  split
  · decide
  · split
    · decide
    · next h1 h2 =>
      rw [if_neg h1, if_neg h2] at h
      exact bnd_k0 h
theorem x_sure (d : Nat) {S : SG} {A : Nat → Nat → Int32} {N : Nat → Int32} (hr : relX S A N) (x p w : Int32) : xCt xMs (d + 4) nX5_sure [.ref 0, .int x, .int p, .int w] (eX A N) (pXs (spSure S x p w)) := by
  have hl := lt256 hr.1.1
  refine xV (M := mX5_sure) rfl rfl rfl rfl rfl pX5_sure rfl (fun G g1 g2 g3 => ?_)
  unfold spSure at g2
  refine xwp_go g1 [] 100 _ _ _ _ ?_
  refine xcX (G := G) g3 (x_wrongSet (d + 1) hr.1 x) ?_
  refine xwp_go g1 [] 100 _ _ _ _ ?_
  refine xcallR (G := G) g3 [] (x_wrongAsked (d + 1) [] p w 2) ?_
  refine xwp_go g1 [] 100 _ _ _ _ ?_
  refine xcallR (G := G) g3 [] (x_first (d + 2) [] _ _) ?_
  rw [ask_eq]
  refine xwp_go g1 [] 100 _ _ _ _ ?_
  refine And.intro (fun h => ?_) (fun h => ?_)
  · rw [if_neg (fun z => z h)] at g2
    obtain ⟨⟨m, hm, rfl⟩, ⟨k, hk, rfl⟩, ⟨o, ho, rfl⟩⟩ := ask_0 (m := 2) (by decide) h
    rw [nI_clamp (by omega), nI_clamp (by omega)] at g2
    refine xcN (G := G) g3 (c_laid d hr.1 (set := m) (over := 0) (by omega) (by decide)) ?_
    have hkn := laidQ_lt hr.1.1 m 0
    generalize laidQ S.1 m 0 = kn at g2 hkn
    refine xwp_go g1 [] 100 _ _ _ _ ?_
    have hx : kn ^^^ (kn &&& o) < 65536 := Nat.xor_lt_two_pow (n := 16) hkn (Nat.lt_of_le_of_lt Nat.and_le_left hkn)
    dsimp only at g2
    refine And.intro (fun h' => ?_) (fun h' => ?_) <;> rw [nI_andn, show (0 : Int32) = nI 0 from rfl, nI_eq (by omega) (by decide)] at h'
    · rw [if_neg (fun z => z h')] at g2
      refine And.intro (fun h1 => ?_) (fun h1 => ?_)
      · rw [if_pos h1] at g2
        exact xri' (G := G) g2 rfl ⟨by rw [nI_andn], A, N, hr, rfl⟩
      · rw [if_neg h1] at g2
        refine And.intro (fun h2 => ?_) (fun h2 => ?_)
        · rw [if_pos h2] at g2
          exact xri' (G := G) g2 rfl ⟨by rw [show (65535 : Int32) = nI 65535 from rfl, nI_andn]; rfl, A, N, hr, rfl⟩
        · rw [if_neg h2] at g2
          refine xcallR (G := G) g3 [] (c_bitCount (d + 2) [] hkn) ?_
          refine xwp_go g1 [] 100 _ _ _ _ ?_
          have := pop_le kn
          exact xri' (G := G) g2 rfl ⟨by rw [nI_pow (by omega)], A, N, hr, rfl⟩
    · rw [if_pos h'] at g2
      exact xri' (G := G) g2 rfl ⟨rfl, A, N, hr, rfl⟩
  · rw [if_pos h] at g2
    refine xcXW (G := G) g3 (x_refused (d + 2) A N (ask_k0 h) (ask_k h).1 (ask_k h).2) ?_
    refine xwp_go g1 [] 100 _ _ _ _ ?_
    exact xri' (G := G) g2 rfl ⟨rfl, _, N, relX_no hr, rfl⟩
