/-! what the short calls answer; the reference's -/
def spSlide (S : SG) (x w : Int32) : Int32 × SG := if hasB (S.1 6 0) x = false then rfs S (-1) else if inB w 0 5 = false then rfs S (-2) else (nI (toldQ S.1 x.toNatClampNeg w.toNatClampNeg), S)
def spWanted (S : SG) (x : Int32) : Int32 × SG := if hasB (S.1 6 1) x = false then rfs S (-1) else (nI (S.1 5 x.toNatClampNeg), S)
def spLay (S : SG) (x y : Int32) : Int32 × SG := if setB (S.1 6 0) x = false ∨ setB (S.1 6 0) y = false then rfs S (-1) else (nI (laidQ S.1 x.toNatClampNeg y.toNatClampNeg), S)
def spProject (S : SG) (x : Int32) : Int32 × SG := if setB (S.1 6 0) x = false then rfs S (-1) else if showB (S.1 6 0) x = false then rfs S (-3) else (nI (laidQ S.1 x.toNatClampNeg 0), setQ S (projQ S.1 x.toNatClampNeg))
def askI (n : Nat) (x p w m : Int32) : Int32 := if setB n x = false then -1 else if inB w 0 m = false then -2 else bndI p 0 65535
def spSure (S : SG) (x p w : Int32) : Int32 × SG := if ¬ askI (S.1 6 0) x p w 2 = 0 then rfs S (askI (S.1 6 0) x p w 2) else
  (let kn := laidQ S.1 x.toNatClampNeg 0
   let pn := p.toNatClampNeg
   if ¬ kn ^^^ (kn &&& pn) = 0 then -9 else if w = 0 then nI (pn ^^^ (pn &&& kn)) else if w = 1 then nI (notN pn) else nI (2 ^ pop kn), S)
def spCount (S : SG) (w : Int32) : Int32 := if inB w 11 16 = true then S.2.2.2.2 (w - 10).toNatClampNeg else if w = 0 then nI (S.1 6 0) else if w = 1 then nI (S.1 6 1) else if w = 2 then nI (S.1 6 2) else if w = 3 then nI (sumQ S.1 4 (S.1 6 0)) else if w = 4 then nI (sumQ S.1 3 (S.1 6 0)) else if w = 5 then nI S.2.2.1.1 else if w = 6 then nI S.2.2.2.1.1 else -9
theorem inB_of {w : Int32} {l m : Nat} (hl : l < 2 ^ 31) (hm : m < 2 ^ 31) (h : inB w (nI l) (nI m) = true) : ∃ k, l ≤ k ∧ k ≤ m ∧ w = nI k := by
  obtain ⟨h1, h2⟩ := of_decide_eq_true h
  obtain ⟨j, hj, rfl⟩ := nI_of (x := w) (fun z => by
    rw [fa_lt] at z
    rw [fa_le, nI_toInt hl] at h1
    have : (0 : Int32).toInt = 0 := by decide
    omega)
  rw [nI_leI hl hj] at h1
  rw [nI_leI hj hm] at h2
  exact ⟨j, h1, h2, rfl⟩
theorem inB_in {l k m : Nat} (hm : m < 2 ^ 31) (h1 : l ≤ k) (h2 : k ≤ m) : inB (nI k) (nI l) (nI m) = true := decide_eq_true ⟨nI_le h1 (by omega), nI_le h2 hm⟩
theorem m_slide (d : Nat) {S : SG} {a : Nat → Nat → Int32} {s : Nat → Int32} (hr : relM S a s) (x w : Int32) : xCt xMs (d + 3) nX6_slide [.ref 0, .int x, .int w] (eM a s) (pMs (spSlide S x w)) := by
  have h8 := hr.1.1.1
  refine xV (M := mX6_slide) rfl rfl rfl rfl rfl pX6_slide rfl (fun G g1 g2 g3 => ?_)
  unfold spSlide at g2
  refine xwp_go g1 [] 100 _ _ _ _ ?_
  refine xcM (G := G) g3 (m_isSlide (d + 1) hr.1 x) ?_
  refine xwp_go g1 [] 100 _ _ _ _ ?_
  refine And.intro (fun h => ?_) (fun h => ?_) <;> rw [bI_0] at h
  · rw [if_neg h] at g2
    have h' := Bool.not_eq_false _ ▸ h
    obtain ⟨i, hi, rfl⟩ := hasB_of (by omega) h'
    obtain ⟨k0, k1, k2, k3, k4⟩ := hr.1.2.1 i hi
    have hin : vp_in (nI i) 8 := vp_in_nI (by omega) (by decide)
    have cl : (nI i).toNatClampNeg = i := nI_clamp (by omega)
    have fin : ∀ {c : Nat} {v : Int32}, c ≤ 5 → w = nI c → v = nI (toldQ S.1 i c) → pMs (if inB w 0 5 = false then rfs S (-2) else (nI (toldQ S.1 (nI i).toNatClampNeg w.toNatClampNeg), S)) (some (.int v)) (eM a s) := by
      intro c v hc hw hv
      rw [hw, show inB (nI c) 0 5 = true from inB_in (l := 0) (m := 5) (by decide) (by omega) hc, if_neg (by decide), cl, nI_clamp (by omega), hv]
      exact ⟨rfl, a, s, hr, rfl⟩
    refine And.intro (fun h => And.intro hin (xri' (G := G) g2 rfl (fin (c := 0) (by decide) h (by rw [cl, k0]; rfl)))) (fun n0 => ?_)
    refine And.intro (fun h => And.intro hin (xri' (G := G) g2 rfl (fin (c := 1) (by decide) h (by rw [cl, k1]; rfl)))) (fun n1 => ?_)
    refine And.intro (fun h => And.intro hin (xri' (G := G) g2 rfl (fin (c := 2) (by decide) h (by rw [cl, k2]; rfl)))) (fun n2 => ?_)
    refine And.intro (fun h => ?_) (fun n3 => ?_)
    · refine xcM (G := G) g3 (m_onSlide d hr.1 hi) ?_
      refine xwp_go g1 [] 100 _ _ _ _ ?_
      exact xri' (G := G) g2 rfl (fin (c := 3) (by decide) h rfl)
    refine And.intro (fun h => And.intro hin (xri' (G := G) g2 rfl (fin (c := 4) (by decide) h (by rw [cl, k3]; rfl)))) (fun n4 => ?_)
    refine And.intro (fun h => And.intro hin (xri' (G := G) g2 rfl (fin (c := 5) (by decide) h (by rw [cl, k4]; rfl)))) (fun n5 => ?_)
    have hno : inB w 0 5 = false := by
      cases hb : inB w 0 5 with
      | false => rfl
      | true =>
        obtain ⟨k, -, hk, rfl⟩ := inB_of (l := 0) (m := 5) (by decide) (by decide) hb
        rcases (by omega : k = 0 ∨ k = 1 ∨ k = 2 ∨ k = 3 ∨ k = 4 ∨ k = 5) with rfl | rfl | rfl | rfl | rfl | rfl
        · exact absurd rfl n0
        · exact absurd rfl n1
        · exact absurd rfl n2
        · exact absurd rfl n3
        · exact absurd rfl n4
        · exact absurd rfl n5
    rw [if_pos hno] at g2
    refine xcMW (G := G) g3 (m_no (d + 1) a s (why := -2) (k := 2) (by decide) (by decide)) ?_
    refine xwp_go g1 [] 100 _ _ _ _ ?_
    exact xri' (G := G) g2 rfl ⟨rfl, _, s, relM_no (k := 2) hr, rfl⟩
  · rw [if_pos h] at g2
    refine xcMW (G := G) g3 (m_no (d + 1) a s (why := -1) (k := 1) (by decide) (by decide)) ?_
    refine xwp_go g1 [] 100 _ _ _ _ ?_
    exact xri' (G := G) g2 rfl ⟨rfl, _, s, relM_no (k := 1) hr, rfl⟩
theorem in_has {n : Nat} (hn : n ≤ 6) (x : Int32) : inB x 0 (nI n - 1) = hasB n x := by
  unfold inB hasB
  refine decide_eq_decide.mpr ?_
  rw [fa_le, fa_le, fa_lt]
  have e : (nI n - 1).toInt = (n : Int) - 1 := pk_sub_toInt (b := 1) (by omega) (by decide)
  rw [e, nI_toInt (by omega)]
  omega
theorem m_wanted (d : Nat) {S : SG} {a : Nat → Nat → Int32} {s : Nat → Int32} (hr : relM S a s) (x : Int32) : xCt xMs (d + 2) nX6_wanted [.ref 0, .int x] (eM a s) (pMs (spWanted S x)) := by
  have h6 := hr.1.1.2.1
  have h1 := hr.1.2.2.2.2.1
  refine xV (M := mX6_wanted) rfl rfl rfl rfl rfl pX6_wanted rfl (fun G g1 g2 g3 => ?_)
  unfold spWanted at g2
  refine xwp_go g1 [] 100 _ _ _ _ ?_
  refine xcallR (G := G) g3 [] (m_isIn d [] x 0 (s 1 - 1)) ?_
  rw [h1, in_has h6]
  refine xwp_go g1 [] 100 _ _ _ _ ?_
  refine And.intro (fun h => ?_) (fun h => ?_) <;> rw [bI_0] at h
  · rw [if_pos h] at g2
    refine xcMW (G := G) g3 (m_no d a s (why := -1) (k := 1) (by decide) (by decide)) ?_
    refine xwp_go g1 [] 100 _ _ _ _ ?_
    exact xri' (G := G) g2 rfl ⟨rfl, _, s, relM_no (k := 1) hr, rfl⟩
  · rw [if_neg h] at g2
    have h' := Bool.not_eq_false _ ▸ h
    obtain ⟨i, hi, rfl⟩ := hasB_of (by omega) h'
    refine And.intro (vp_in_nI (by omega) (by decide)) ?_
    exact xri' (G := G) g2 rfl ⟨by rw [nI_clamp (by omega), hr.1.2.2.1 i hi], a, s, hr, rfl⟩
theorem m_lay (d : Nat) {S : SG} {a : Nat → Nat → Int32} {s : Nat → Int32} (hr : relM S a s) (x y : Int32) : xCt xMs (d + 4) nX6_lay [.ref 0, .int x, .int y] (eM a s) (pMs (spLay S x y)) := by
  have hl := lt256 hr.1.1
  refine xV (M := mX6_lay) rfl rfl rfl rfl rfl pX6_lay rfl (fun G g1 g2 g3 => ?_)
  unfold spLay at g2
  refine xwp_go g1 [] 100 _ _ _ _ ?_
  refine xcM (G := G) g3 (m_areSlides (d + 2) hr.1 x) ?_
  refine xwp_go g1 [] 100 _ _ _ _ ?_
  refine And.intro (fun h => ?_) (fun h => ?_) <;> rw [bI_0] at h
  · rw [if_pos (Or.inl h)] at g2
    refine xcMW (G := G) g3 (m_no (d + 2) a s (why := -1) (k := 1) (by decide) (by decide)) ?_
    refine xwp_go g1 [] 100 _ _ _ _ ?_
    exact xri' (G := G) g2 rfl ⟨rfl, _, s, relM_no (k := 1) hr, rfl⟩
  refine xcM (G := G) g3 (m_areSlides (d + 2) hr.1 y) ?_
  refine xwp_go g1 [] 100 _ _ _ _ ?_
  refine And.intro (fun h' => ?_) (fun h' => ?_) <;> rw [bI_0] at h'
  · rw [if_pos (Or.inr h')] at g2
    refine xcMW (G := G) g3 (m_no (d + 2) a s (why := -1) (k := 1) (by decide) (by decide)) ?_
    refine xwp_go g1 [] 100 _ _ _ _ ?_
    exact xri' (G := G) g2 rfl ⟨rfl, _, s, relM_no (k := 1) hr, rfl⟩
  rw [if_neg (fun z => z.elim h h')] at g2
  obtain ⟨m, hm, rfl⟩ := setB_of (Bool.not_eq_false _ ▸ h)
  obtain ⟨o, ho, rfl⟩ := setB_of (Bool.not_eq_false _ ▸ h')
  rw [nI_clamp (by omega), nI_clamp (by omega)] at g2
  refine xcM (G := G) g3 (m_laid d hr.1 (set := m) (over := o) (by omega) (by omega)) ?_
  refine xwp_go g1 [] 100 _ _ _ _ ?_
  exact xri' (G := G) g2 rfl ⟨rfl, a, s, hr, rfl⟩
theorem m_project (d : Nat) {S : SG} {a : Nat → Nat → Int32} {s : Nat → Int32} (hr : relM S a s) (x : Int32) : xCt xMs (d + 5) nX6_project [.ref 0, .int x] (eM a s) (pMs (spProject S x)) := by
  have hl := lt256 hr.1.1
  refine xV (M := mX6_project) rfl rfl rfl rfl rfl pX6_project rfl (fun G g1 g2 g3 => ?_)
  unfold spProject at g2
  refine xwp_go g1 [] 100 _ _ _ _ ?_
  refine xcM (G := G) g3 (m_areSlides (d + 3) hr.1 x) ?_
  refine xwp_go g1 [] 100 _ _ _ _ ?_
  refine And.intro (fun h => ?_) (fun h => ?_) <;> rw [bI_0] at h
  · rw [if_neg h] at g2
    refine xcM (G := G) g3 (m_isShow (d + 2) hr.1 x) ?_
    refine xwp_go g1 [] 100 _ _ _ _ ?_
    obtain ⟨m, hm, rfl⟩ := setB_of (Bool.not_eq_false _ ▸ h)
    refine And.intro (fun h' => ?_) (fun h' => ?_) <;> rw [bI_0] at h'
    · rw [if_pos h'] at g2
      refine xcMW (G := G) g3 (m_no (d + 3) a s (why := -3) (k := 3) (by decide) (by decide)) ?_
      refine xwp_go g1 [] 100 _ _ _ _ ?_
      exact xri' (G := G) g2 rfl ⟨rfl, _, s, relM_no (k := 3) hr, rfl⟩
    · rw [if_neg h', nI_clamp (by omega)] at g2
      refine xcMP (G := G) g3 (m_projects d hr.1 (set := m) (by omega)) (fun v w hp => ⟨_, _, hp.2.choose_spec.2.2⟩) (fun v a' s' hp => ?_)
      obtain ⟨rfl, a2, h2, h3, h4⟩ := hp
      rw [h4]
      refine xwp_go g1 [] 100 _ _ _ _ ?_
      exact xri' (G := G) g2 rfl ⟨rfl, a2, s, relM_q hr h2 h3 (fun _ _ => rfl), rfl⟩
  · rw [if_pos h] at g2
    refine xcMW (G := G) g3 (m_no (d + 3) a s (why := -1) (k := 1) (by decide) (by decide)) ?_
    refine xwp_go g1 [] 100 _ _ _ _ ?_
    exact xri' (G := G) g2 rfl ⟨rfl, _, s, relM_no (k := 1) hr, rfl⟩
theorem m_notAsked (d : Nat) {q : LQ} {a : Nat → Nat → Int32} {s : Nat → Int32} (hr : relS q a s) (x p w m : Int32) : xCt xMs (d + 2) nX6_notAsked [.ref 0, .int x, .int p, .int w, .int m] (eM a s) (xRet (askI (q 6 0) x p w m) (eM a s)) := by
  refine xV (M := mX6_notAsked) rfl rfl rfl rfl rfl pX6_notAsked rfl (fun G g1 g2 g3 => ?_)
  unfold askI at g2
  refine xwp_go g1 [] 100 _ _ _ _ ?_
  refine xcM (G := G) g3 (m_areSlides d hr x) ?_
  refine xwp_go g1 [] 100 _ _ _ _ ?_
  refine And.intro (fun h => ?_) (fun h => ?_) <;> rw [bI_0] at h
  · rw [if_neg h] at g2
    refine xcallR (G := G) g3 [] (m_isIn d [] w 0 m) ?_
    refine xwp_go g1 [] 100 _ _ _ _ ?_
    refine And.intro (fun h' => ?_) (fun h' => ?_) <;> rw [bI_0] at h'
    · rw [if_neg h'] at g2
      refine xcallR (G := G) g3 [] (m_bound d [] p 0 65535) ?_
      refine xwp_go g1 [] 100 _ _ _ _ ?_
      exact xri (G := G) g2 rfl rfl rfl
    · rw [if_pos h'] at g2
      exact xri (G := G) g2 rfl rfl rfl
  · rw [if_pos h] at g2
    exact xri (G := G) g2 rfl rfl rfl
theorem ask_k {n : Nat} {x p w m : Int32} (h : ¬ askI n x p w m = 0) : refK (askI n x p w m) < 7 ∧ -(askI n x p w m) = nI (refK (askI n x p w m)) := by
  unfold askI at h ⊢
  split
  · decide
  · split
    · decide
    · next h1 h2 =>
      rw [if_neg h1, if_neg h2] at h
      exact bnd_k h
theorem ask_0 {n : Nat} {x p w : Int32} {m : Nat} (hm : m < 2 ^ 31) (h : askI n x p w (nI m) = 0) : (∃ k, k < 2 ^ n ∧ x = nI k) ∧ (∃ k, k ≤ m ∧ w = nI k) ∧ ∃ k, k < 65536 ∧ p = nI k := by
  unfold askI at h
  split at h
  · exact absurd h (by decide)
  · split at h
    · exact absurd h (by decide)
    · next h1 h2 =>
      obtain ⟨k, -, hk, e⟩ := bnd_0 (l := 0) (m := 65535) (by decide) (by decide) h
      obtain ⟨k2, -, hk2, e2⟩ := inB_of (l := 0) (m := m) (by decide) hm (Bool.not_eq_false _ ▸ h2)
      exact ⟨setB_of (Bool.not_eq_false _ ▸ h1), ⟨k2, hk2, e2⟩, ⟨k, by omega, e⟩⟩
theorem m_sure (d : Nat) {S : SG} {a : Nat → Nat → Int32} {s : Nat → Int32} (hr : relM S a s) (x p w : Int32) : xCt xMs (d + 4) nX6_sure [.ref 0, .int x, .int p, .int w] (eM a s) (pMs (spSure S x p w)) := by
  have hl := lt256 hr.1.1
  refine xV (M := mX6_sure) rfl rfl rfl rfl rfl pX6_sure rfl (fun G g1 g2 g3 => ?_)
  unfold spSure at g2
  refine xwp_go g1 [] 100 _ _ _ _ ?_
  refine xcM (G := G) g3 (m_notAsked (d + 1) hr.1 x p w 2) ?_
  refine xwp_go g1 [] 100 _ _ _ _ ?_
  refine And.intro (fun h => ?_) (fun h => ?_)
  · rw [if_neg (fun z => z h)] at g2
    obtain ⟨⟨m, hm, rfl⟩, ⟨k, hk, rfl⟩, ⟨o, ho, rfl⟩⟩ := ask_0 (m := 2) (by decide) h
    rw [nI_clamp (by omega), nI_clamp (by omega)] at g2
    refine xcM (G := G) g3 (m_laid d hr.1 (set := m) (over := 0) (by omega) (by decide)) ?_
    have hkn := laidQ_lt hr.1.1 m 0
    generalize laidQ S.1 m 0 = kn at g2 hkn
    refine xwp_go g1 [] 100 _ _ _ _ ?_
    have hx : kn ^^^ (kn &&& o) < 65536 := Nat.xor_lt_two_pow (n := 16) hkn (Nat.lt_of_le_of_lt Nat.and_le_left hkn)
    dsimp only at g2
    refine And.intro (fun h' => ?_) (fun h' => ?_) <;> rw [nI_andn, show (0 : Int32) = nI 0 from rfl, nI_eq (by omega) (by decide)] at h'
    · rw [if_neg (fun z => z h')] at g2
      refine And.intro (fun h1 => ?_) (fun h1 => ?_)
      · rw [if_neg h1] at g2
        refine And.intro (fun h2 => ?_) (fun h2 => ?_)
        · rw [if_neg h2] at g2
          refine xcallR (G := G) g3 [] (m_bits (d + 2) [] hkn) ?_
          refine xwp_go g1 [] 100 _ _ _ _ ?_
          have := pop_le kn
          exact xri' (G := G) g2 rfl ⟨by rw [nI_pow (by omega)], a, s, hr, rfl⟩
        · rw [if_pos h2] at g2
          exact xri' (G := G) g2 rfl ⟨by rw [show (65535 : Int32) = nI 65535 from rfl, nI_andn]; rfl, a, s, hr, rfl⟩
      · rw [if_pos h1] at g2
        exact xri' (G := G) g2 rfl ⟨by rw [nI_andn], a, s, hr, rfl⟩
    · rw [if_pos h'] at g2
      exact xri' (G := G) g2 rfl ⟨rfl, a, s, hr, rfl⟩
  · rw [if_pos h] at g2
    refine xcMW (G := G) g3 (m_no (d + 2) a s (ask_k h).1 (ask_k h).2) ?_
    refine xwp_go g1 [] 100 _ _ _ _ ?_
    exact xri' (G := G) g2 rfl ⟨rfl, _, s, relM_no hr, rfl⟩
theorem cost_all {q : LQ} : ∀ {n N : Nat}, n ≤ N → costL q (2 ^ N - 1) n = sumQ q 3 n
  | 0, _, _ => rfl
  | n + 1, N, h => by
    show costL q (2 ^ N - 1) n + (if (2 ^ N - 1).testBit n then q 3 n else 0) = sumQ q 3 n + q 3 n
    rw [cost_all (by omega), Nat.testBit_two_pow_sub_one, if_pos (by simpa using (show n < N by omega))]
theorem m_count (d : Nat) {S : SG} {a : Nat → Nat → Int32} {s : Nat → Int32} (hr : relM S a s) (w : Int32) : xCt xMs (d + 2) nX6_count [.ref 0, .int w] (eM a s) (pMs (spCount S w, S)) := by
  have h8 := hr.1.1.1
  obtain ⟨hA, h0, h1, h2⟩ : (∀ i, i < S.1 6 0 → a 4 i = nI (S.1 4 i)) ∧ s 0 = nI (S.1 6 0) ∧ s 1 = nI (S.1 6 1) ∧ s 2 = nI (S.1 6 2) := ⟨fun i hi => (hr.1.2.1 i hi).2.2.2.2, hr.1.2.2.2⟩
  refine xV (M := mX6_count) rfl rfl rfl rfl rfl pX6_count rfl (fun G g1 g2 g3 => ?_)
  unfold spCount at g2
  refine xwp_go g1 [] 100 _ _ _ _ ?_
  refine xcallR (G := G) g3 [] (m_isIn d [] w 11 16) ?_
  refine xwp_go g1 [85] 100 _ _ _ _ ?_
  refine And.intro (fun h => ?_) (fun h => ?_) <;> rw [bI_0] at h
  · rw [if_neg (by rw [h]; decide)] at g2
    refine And.intro (fun h => ?_) (fun n0 => ?_)
    · rw [if_pos h] at g2
      exact xri' (G := G) g2 rfl ⟨by rw [h0], a, s, hr, rfl⟩
    rw [if_neg n0] at g2
    refine And.intro (fun h => ?_) (fun n0 => ?_)
    · rw [if_pos h] at g2
      exact xri' (G := G) g2 rfl ⟨by rw [h1], a, s, hr, rfl⟩
    rw [if_neg n0] at g2
    refine And.intro (fun h => ?_) (fun n0 => ?_)
    · rw [if_pos h] at g2
      exact xri' (G := G) g2 rfl ⟨by rw [h2], a, s, hr, rfl⟩
    rw [if_neg n0] at g2
    refine And.intro (fun h => ?_) (fun n0 => ?_)
    · rw [if_pos h] at g2
      refine up (k := S.1 6 0) (P := fun i => ∀ x y, x = nI i → y = nI (sumQ S.1 4 i) → G 85 [some (.ref 0), some (.int w), some (.int y), some (.int x)] [] (eM a s)) ?_ ?_ 0 (Nat.zero_le _) _ _ rfl rfl
      · intro x y hx hy
        subst hx; subst hy
        refine xwp_go g1 [85] 100 _ _ _ _ ?_
        refine And.intro (fun h => xri' (G := G) g2 rfl ⟨rfl, a, s, hr, rfl⟩) (fun h => ?_)
        rw [h0] at h
        exact absurd (nI_le (Nat.le_refl _) (by omega)) h
      · intro i hi ih x y hx hy
        subst hx; subst hy
        refine xwp_go g1 [85] 100 _ _ _ _ ?_
        refine And.intro (fun h => ?_) (fun h => ?_)
        · rw [h0] at h
          exact absurd h (nI_ge hi (by omega))
        · refine And.intro (vp_in_nI (by omega) (by decide)) ?_
          exact ih _ _ (nI_1 i) (by rw [nI_clamp (by omega), hA i hi, nI_add]; rfl)
    rw [if_neg n0] at g2
    refine And.intro (fun h => ?_) (fun n0 => ?_)
    · rw [if_pos h] at g2
      have hl := lt256 hr.1.1
      have hpos := Nat.two_pow_pos (S.1 6 0)
      have e : (1 : Int32) <<< (s 0 &&& 31) - 1 = nI (2 ^ S.1 6 0 - 1) := by rw [h0, nI_pow (by omega), show (1 : Int32) = nI 1 from rfl, pk_sub hpos]
      refine xcM (G := G) g3 (agr1 e (m_pricesOf d hr.1 (by omega))) ?_
      refine xwp_go g1 [85] 100 _ _ _ _ ?_
      exact xri' (G := G) g2 rfl ⟨by rw [cost_all (Nat.le_refl _)], a, s, hr, rfl⟩
    rw [if_neg n0] at g2
    refine And.intro (fun h => ?_) (fun n0 => ?_)
    · rw [if_pos h] at g2
      exact xri' (G := G) g2 rfl ⟨by rw [hr.2.2.1.1], a, s, hr, rfl⟩
    rw [if_neg n0] at g2
    refine And.intro (fun h => ?_) (fun n0 => ?_)
    · rw [if_pos h] at g2
      exact xri' (G := G) g2 rfl ⟨by rw [hr.2.2.2.1.1], a, s, hr, rfl⟩
    rw [if_neg n0] at g2
    exact xri' (G := G) g2 rfl ⟨rfl, a, s, hr, rfl⟩
  · rw [if_pos (Bool.not_eq_false _ ▸ h)] at g2
    obtain ⟨k, hk1, hk2, rfl⟩ := inB_of (l := 11) (m := 16) (by decide) (by decide) (Bool.not_eq_false _ ▸ h)
    have e : nI k - 10 = nI (k - 10) := pk_sub (b := 10) (by omega)
    refine And.intro (by rw [e]; exact vp_in_nI (by omega) (by decide)) ?_
    exact xri' (G := G) g2 rfl ⟨by rw [e, nI_clamp (by omega), hr.2.1 (k - 10) (by omega) (by omega)], a, s, hr, rfl⟩
