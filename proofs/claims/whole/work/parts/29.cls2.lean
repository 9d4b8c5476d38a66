/-! the class's calls that ask the lantern now -/
theorem relX_q {S : SG} {A a' : Nat → Nat → Int32} {N s' : Nat → Int32} (h : relX S A N) {q : LQ} (hq : relS q a' s') : relX (setQ S q) (ptA A 0 6 a') (ptN N 0 3 s') := by
  obtain ⟨h1, h2, h3, h4, h5, h6⟩ := h
  exact ⟨hq, h2, h3, h4, h5, h6⟩
theorem wsI_0 {b : Bool} : wsI b = 0 ↔ b = true := by cases b <;> decide
theorem wwI_0 {w m : Int32} : wwI w m = 0 ↔ inB w 0 m = true := by
  unfold wwI
  cases inB w 0 m <;> decide
theorem x_slide (d : Nat) {S : SG} {A : Nat → Nat → Int32} {N : Nat → Int32} (hr : relX S A N) (x w : Int32) : xCt xMs (d + 4) nX5_slide [.ref 0, .int x, .int w] (eX A N) (pXs (spSlide S x w)) := by
  have h8 := hr.1.1.1
  refine xV (M := mX5_slide) rfl rfl rfl rfl rfl pX5_slide rfl (fun G g1 g2 g3 => ?_)
  unfold spSlide at g2
  refine xwp_go g1 [] 100 _ _ _ _ ?_
  refine xcX (G := G) g3 (x_wrongSlide (d + 1) hr.1 x) ?_
  refine xwp_go g1 [] 100 _ _ _ _ ?_
  refine xcallR (G := G) g3 [] (x_wrongWhat (d + 2) [] w 5) ?_
  refine xwp_go g1 [] 100 _ _ _ _ ?_
  refine xcallR (G := G) g3 [] (x_first (d + 2) [] _ _) ?_
  by_cases h1 : hasB (S.1 6 0) x = false
  · rw [if_pos h1] at g2
    rw [h1, show (if wsI false = 0 then wwI w 5 else wsI false) = -1 from rfl]
    refine xwp_go g1 [] 100 _ _ _ _ ?_
    refine And.intro (fun h => absurd h (by decide)) (fun _ => ?_)
    refine xcXW (G := G) g3 (x_refused (d + 2) A N (why := -1) (k := 1) (by decide) (by decide) (by decide)) ?_
    refine xwp_go g1 [] 100 _ _ _ _ ?_
    exact xri' (G := G) g2 rfl ⟨rfl, _, N, relX_no (k := 1) hr, rfl⟩
  rw [if_neg h1] at g2
  have h1' : hasB (S.1 6 0) x = true := Bool.not_eq_false _ ▸ h1
  rw [h1', show (if wsI true = 0 then wwI w 5 else wsI true) = wwI w 5 from rfl]
  obtain ⟨i, hi, rfl⟩ := hasB_of (by omega) h1'
  by_cases h2 : inB w 0 5 = false
  · rw [if_pos h2] at g2
    rw [show wwI w 5 = -2 from by unfold wwI; rw [if_pos h2]]
    refine xwp_go g1 [] 100 _ _ _ _ ?_
    refine And.intro (fun h => absurd h (by decide)) (fun _ => ?_)
    refine xcXW (G := G) g3 (x_refused (d + 2) A N (why := -2) (k := 2) (by decide) (by decide) (by decide)) ?_
    refine xwp_go g1 [] 100 _ _ _ _ ?_
    exact xri' (G := G) g2 rfl ⟨rfl, _, N, relX_no (k := 2) hr, rfl⟩
  rw [if_neg h2] at g2
  have h2' : inB w 0 5 = true := Bool.not_eq_false _ ▸ h2
  rw [show wwI w 5 = 0 from wwI_0.mpr h2']
  obtain ⟨k, -, hk, rfl⟩ := inB_of (l := 0) (m := 5) (by decide) (by decide) h2'
  rw [nI_clamp (by omega), nI_clamp (by omega)] at g2
  refine xwp_go g1 [] 100 _ _ _ _ ?_
  refine And.intro (fun _ => ?_) (fun h => absurd rfl h)
  refine xcN (G := G) g3 (c_told d hr.1 hi hk) ?_
  refine xwp_go g1 [] 100 _ _ _ _ ?_
  exact xri' (G := G) g2 rfl ⟨rfl, A, N, hr, rfl⟩
theorem x_wanted (d : Nat) {S : SG} {A : Nat → Nat → Int32} {N : Nat → Int32} (hr : relX S A N) (x : Int32) : xCt xMs (d + 3) nX5_wanted [.ref 0, .int x] (eX A N) (pXs (spWanted S x)) := by
  have h6 := hr.1.1.2.1
  refine xV (M := mX5_wanted) rfl rfl rfl rfl rfl pX5_wanted rfl (fun G g1 g2 g3 => ?_)
  unfold spWanted at g2
  refine xwp_go g1 [] 100 _ _ _ _ ?_
  refine xcN (G := G) g3 (c_hasWanted (d + 1) hr.1 x) ?_
  refine xwp_go g1 [] 100 _ _ _ _ ?_
  refine And.intro (fun h => ?_) (fun h => ?_) <;> rw [bI_0] at h
  · rw [if_pos h] at g2
    refine xcXW (G := G) g3 (x_refused (d + 1) A N (why := -1) (k := 1) (by decide) (by decide) (by decide)) ?_
    refine xwp_go g1 [] 100 _ _ _ _ ?_
    exact xri' (G := G) g2 rfl ⟨rfl, _, N, relX_no (k := 1) hr, rfl⟩
  · rw [if_neg h] at g2
    obtain ⟨i, hi, rfl⟩ := hasB_of (by omega) (Bool.not_eq_false _ ▸ h)
    rw [nI_clamp (by omega)] at g2
    refine xcN (G := G) g3 (c_wantedPicture d hr.1 hi) ?_
    refine xwp_go g1 [] 100 _ _ _ _ ?_
    exact xri' (G := G) g2 rfl ⟨rfl, A, N, hr, rfl⟩
def spHeat (S : SG) (x : Int32) : Int32 × SG := if ¬ bndI x 1 9 = 0 then rfs S (bndI x 1 9) else (nI (S.1 6 2), setQ S (heatQ S.1 x.toNatClampNeg))
def spPrice (S : SG) (x v : Int32) : Int32 × SG := if hasB (S.1 6 0) x = false then rfs S (-1) else if ¬ bndI v 0 99 = 0 then rfs S (bndI v 0 99) else (nI (S.1 3 x.toNatClampNeg), setQ S (priceQ S.1 x.toNatClampNeg v.toNatClampNeg))
def spFeed (S : SG) (x : Int32) : Int32 × SG := if ¬ bndI x 0 255 = 0 then rfs S (bndI x 0 255) else if S.2.2.1.1 = 80 then rfs S (-6) else (nI (S.2.2.1.1 + 1), S.1, S.2.1, (S.2.2.1.1 + 1, fun i => if i = S.2.2.1.1 then x.toNatClampNeg else S.2.2.1.2 i), S.2.2.2.1, S.2.2.2.2)
def spRow (S : SG) (x : Int32) : Int32 × SG := if ¬ bndI x 0 255 = 0 then rfs S (bndI x 0 255) else if S.2.2.2.1.1 = 12 then rfs S (-6) else (nI (S.2.2.2.1.1 + 1), S.1, S.2.1, S.2.2.1, (S.2.2.2.1.1 + 1, fun i => if i = S.2.2.2.1.1 then x.toNatClampNeg else S.2.2.2.1.2 i), S.2.2.2.2)
theorem bnd_k0 {v l m : Int32} (h : ¬ bndI v l m = 0) : 0 < refK (bndI v l m) := by
  rcases bnd_c v l m with q | q | q
  · exact absurd q h
  · rw [q]; decide
  · rw [q]; decide
theorem x_heat (d : Nat) {S : SG} {A : Nat → Nat → Int32} {N : Nat → Int32} (hr : relX S A N) (x : Int32) : xCt xMs (d + 2) nX5_heat [.ref 0, .int x] (eX A N) (pXs (spHeat S x)) := by
  refine xV (M := mX5_heat) rfl rfl rfl rfl rfl pX5_heat rfl (fun G g1 g2 g3 => ?_)
  unfold spHeat at g2
  refine xwp_go g1 [] 100 _ _ _ _ ?_
  refine xcallR (G := G) g3 [] (x_wrongNumber d [] x 1 9) ?_
  refine xwp_go g1 [] 100 _ _ _ _ ?_
  refine And.intro (fun h => ?_) (fun h => ?_)
  · rw [if_neg (fun z => z h)] at g2
    obtain ⟨m, hm1, hm, rfl⟩ := bnd_0 (l := 1) (m := 9) (by decide) (by decide) h
    rw [nI_clamp (by omega)] at g2
    refine xri' (G := G) g2 rfl ⟨by rw [hr.1.2.2.2.2.2], A, sU N 2 (nI m), ?_, rfl⟩
    obtain ⟨h1, h2, h3, h4, h5, h6⟩ := hr
    exact ⟨rel_heat h1 hm1 hm rfl rfl rfl, h2, h3, h4, h5, h6⟩
  · rw [if_pos h] at g2
    refine xcXW (G := G) g3 (x_refused d A N (bnd_k0 h) (bnd_k h).1 (bnd_k h).2) ?_
    refine xwp_go g1 [] 100 _ _ _ _ ?_
    exact xri' (G := G) g2 rfl ⟨rfl, _, N, relX_no hr, rfl⟩
theorem x_price (d : Nat) {S : SG} {A : Nat → Nat → Int32} {N : Nat → Int32} (hr : relX S A N) (x v : Int32) : xCt xMs (d + 3) nX5_price [.ref 0, .int x, .int v] (eX A N) (pXs (spPrice S x v)) := by
  have h8 := hr.1.1.1
  refine xV (M := mX5_price) rfl rfl rfl rfl rfl pX5_price rfl (fun G g1 g2 g3 => ?_)
  unfold spPrice at g2
  refine xwp_go g1 [] 100 _ _ _ _ ?_
  refine xcX (G := G) g3 (x_wrongSlide d hr.1 x) ?_
  refine xwp_go g1 [] 100 _ _ _ _ ?_
  refine xcallR (G := G) g3 [] (x_wrongNumber (d + 1) [] v 0 99) ?_
  refine xwp_go g1 [] 100 _ _ _ _ ?_
  refine xcallR (G := G) g3 [] (x_first (d + 1) [] _ _) ?_
  by_cases h1 : hasB (S.1 6 0) x = false
  · rw [if_pos h1] at g2
    rw [h1, show (if wsI false = 0 then bndI v 0 99 else wsI false) = -1 from rfl]
    refine xwp_go g1 [] 100 _ _ _ _ ?_
    refine And.intro (fun h => absurd h (by decide)) (fun _ => ?_)
    refine xcXW (G := G) g3 (x_refused (d + 1) A N (why := -1) (k := 1) (by decide) (by decide) (by decide)) ?_
    refine xwp_go g1 [] 100 _ _ _ _ ?_
    exact xri' (G := G) g2 rfl ⟨rfl, _, N, relX_no (k := 1) hr, rfl⟩
  rw [if_neg h1] at g2
  have h1' : hasB (S.1 6 0) x = true := Bool.not_eq_false _ ▸ h1
  rw [h1', show (if wsI true = 0 then bndI v 0 99 else wsI true) = bndI v 0 99 from rfl]
  obtain ⟨i, hi, rfl⟩ := hasB_of (by omega) h1'
  refine xwp_go g1 [] 100 _ _ _ _ ?_
  refine And.intro (fun h => ?_) (fun h => ?_)
  · rw [if_neg (fun z => z h)] at g2
    obtain ⟨m, -, hm, rfl⟩ := bnd_0 (l := 0) (m := 99) (by decide) (by decide) h
    rw [nI_clamp (by omega), nI_clamp (by omega)] at g2
    refine xcNP (G := G) g3 (c_repriced d hr.1 hi hm) (fun v w hp => ⟨_, _, hp.2.choose_spec.2⟩) (fun v a' s' hp => ?_)
    obtain ⟨rfl, a2, h2, h3⟩ := hp
    refine xwp_go g1 [] 100 _ _ _ _ ?_
    have e : eX (ptA A 0 6 a') (ptN N 0 3 s') = eX (ptA A 0 6 a2) (ptN N 0 3 N) := by rw [← xputNow A a' N s', ← xputNow A a2 N N, h3]
    exact xri' (G := G) g2 rfl ⟨rfl, ptA A 0 6 a2, ptN N 0 3 N, relX_q hr h2, e⟩
  · rw [if_pos h] at g2
    refine xcXW (G := G) g3 (x_refused (d + 1) A N (bnd_k0 h) (bnd_k h).1 (bnd_k h).2) ?_
    refine xwp_go g1 [] 100 _ _ _ _ ?_
    exact xri' (G := G) g2 rfl ⟨rfl, _, N, relX_no hr, rfl⟩
theorem x_lay (d : Nat) {S : SG} {A : Nat → Nat → Int32} {N : Nat → Int32} (hr : relX S A N) (x y : Int32) : xCt xMs (d + 4) nX5_lay [.ref 0, .int x, .int y] (eX A N) (pXs (spLay S x y)) := by
  have hl := lt256 hr.1.1
  refine xV (M := mX5_lay) rfl rfl rfl rfl rfl pX5_lay rfl (fun G g1 g2 g3 => ?_)
  unfold spLay at g2
  refine xwp_go g1 [] 100 _ _ _ _ ?_
  refine xcX (G := G) g3 (x_wrongSet (d + 1) hr.1 x) ?_
  refine xwp_go g1 [] 100 _ _ _ _ ?_
  refine xcX (G := G) g3 (x_wrongSet (d + 1) hr.1 y) ?_
  refine xwp_go g1 [] 100 _ _ _ _ ?_
  refine xcallR (G := G) g3 [] (x_first (d + 2) [] _ _) ?_
  by_cases h1 : setB (S.1 6 0) x = false ∨ setB (S.1 6 0) y = false
  · rw [if_pos h1] at g2
    rw [show (if wsI (setB (S.1 6 0) x) = 0 then wsI (setB (S.1 6 0) y) else wsI (setB (S.1 6 0) x)) = -1 from by
      rcases h1 with h | h
      · rw [h]; rfl
      · rw [h]; cases setB (S.1 6 0) x <;> rfl]
    refine xwp_go g1 [] 100 _ _ _ _ ?_
    refine And.intro (fun h => absurd h (by decide)) (fun _ => ?_)
    refine xcXW (G := G) g3 (x_refused (d + 2) A N (why := -1) (k := 1) (by decide) (by decide) (by decide)) ?_
    refine xwp_go g1 [] 100 _ _ _ _ ?_
    exact xri' (G := G) g2 rfl ⟨rfl, _, N, relX_no (k := 1) hr, rfl⟩
  · rw [if_neg h1] at g2
    have hx : setB (S.1 6 0) x = true := Bool.not_eq_false _ ▸ (fun z => h1 (Or.inl z))
    have hy : setB (S.1 6 0) y = true := Bool.not_eq_false _ ▸ (fun z => h1 (Or.inr z))
    rw [hx, hy, show (if wsI true = 0 then wsI true else wsI true) = 0 from rfl]
    obtain ⟨m, hm, rfl⟩ := setB_of hx
    obtain ⟨o, ho, rfl⟩ := setB_of hy
    rw [nI_clamp (by omega), nI_clamp (by omega)] at g2
    refine xwp_go g1 [] 100 _ _ _ _ ?_
    refine And.intro (fun _ => ?_) (fun h => absurd rfl h)
    refine xcN (G := G) g3 (c_laid d hr.1 (set := m) (over := o) (by omega) (by omega)) ?_
    refine xwp_go g1 [] 100 _ _ _ _ ?_
    exact xri' (G := G) g2 rfl ⟨rfl, A, N, hr, rfl⟩
theorem x_project (d : Nat) {S : SG} {A : Nat → Nat → Int32} {N : Nat → Int32} (hr : relX S A N) (x : Int32) : xCt xMs (d + 5) nX5_project [.ref 0, .int x] (eX A N) (pXs (spProject S x)) := by
  have hl := lt256 hr.1.1
  refine xV (M := mX5_project) rfl rfl rfl rfl rfl pX5_project rfl (fun G g1 g2 g3 => ?_)
  unfold spProject at g2
  refine xwp_go g1 [] 100 _ _ _ _ ?_
  refine xcX (G := G) g3 (x_wrongSet (d + 2) hr.1 x) ?_
  refine xwp_go g1 [] 100 _ _ _ _ ?_
  refine And.intro (fun h => ?_) (fun h => ?_) <;> rw [wsI_0] at h
  · have h' : setB (S.1 6 0) x = false := by simpa using h
    rw [if_pos h'] at g2
    rw [h'] 
    refine And.intro (fun h => absurd h (by decide)) (fun _ => ?_)
    refine xcXW (G := G) g3 (x_refused (d + 3) A N (why := -1) (k := 1) (by decide) (by decide) (by decide)) ?_
    refine xwp_go g1 [] 100 _ _ _ _ ?_
    exact xri' (G := G) g2 rfl ⟨rfl, _, N, relX_no (k := 1) hr, rfl⟩
  · rw [if_neg (by rw [h]; decide)] at g2
    obtain ⟨m, hm, rfl⟩ := setB_of h
    rw [nI_clamp (by omega)] at g2
    rw [h]
    refine xcN (G := G) g3 (c_isProjectable (d + 2) hr.1 (nI m)) ?_
    refine xwp_go g1 [] 100 _ _ _ _ ?_
    refine And.intro (fun h2 => ?_) (fun h2 => ?_) <;> rw [bI_0] at h2
    · rw [if_neg h2] at g2
      refine And.intro (fun _ => ?_) (fun h => absurd rfl h)
      refine xcNP (G := G) g3 (c_projected d hr.1 (set := m) (by omega)) (fun v w hp => ⟨_, _, hp.2.choose_spec.2⟩) (fun v a' s' hp => ?_)
      obtain ⟨rfl, a2, h2, h3⟩ := hp
      refine xwp_go g1 [] 100 _ _ _ _ ?_
      have e : eX (ptA A 0 6 a') (ptN N 0 3 s') = eX (ptA A 0 6 a2) (ptN N 0 3 N) := by rw [← xputNow A a' N s', ← xputNow A a2 N N, h3]
      exact xri' (G := G) g2 rfl ⟨rfl, ptA A 0 6 a2, ptN N 0 3 N, relX_q hr h2, e⟩
    · rw [if_pos h2] at g2
      refine And.intro (fun h => absurd h (by decide)) (fun _ => ?_)
      refine xcXW (G := G) g3 (x_refused (d + 3) A N (why := -3) (k := 3) (by decide) (by decide) (by decide)) ?_
      refine xwp_go g1 [] 100 _ _ _ _ ?_
      exact xri' (G := G) g2 rfl ⟨rfl, _, N, relX_no (k := 3) hr, rfl⟩
