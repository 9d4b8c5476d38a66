/-! the whole state in numbers; the reference's short calls -/
/-- the lantern; the image (is there one, which); letters; the row; refusals -/
abbrev SG : Type := LQ × (Bool × LQ) × (Nat × (Nat → Nat)) × (Nat × (Nat → Nat)) × (Nat → Int32)
/-- a lantern laid out in a row, from o on -/
def keptA (q : LQ) (f : Nat → Int32) (o : Nat) : Prop := okS q ∧ (∀ i, i < q 6 0 → f (o + i) = nI (q 0 i) ∧ f (o + 8 + i) = nI (q 1 i) ∧ f (o + 16 + i) = nI (q 2 i) ∧ f (o + 24 + i) = nI (q 3 i) ∧ f (o + 32 + i) = nI (q 4 i)) ∧ (∀ i, i < q 6 1 → f (o + 40 + i) = nI (q 5 i)) ∧ f (o + 46) = nI (q 6 0) ∧ f (o + 47) = nI (q 6 1) ∧ f (o + 48) = nI (q 6 2)
def relM (S : SG) (a : Nat → Nat → Int32) (s : Nat → Int32) : Prop := relS S.1 a s ∧ (∀ k, 1 ≤ k → k ≤ 6 → a 6 k = S.2.2.2.2 k) ∧ (s 3 = nI S.2.2.1.1 ∧ S.2.2.1.1 ≤ 80 ∧ ∀ i, i < S.2.2.1.1 → a 7 i = nI (S.2.2.1.2 i) ∧ S.2.2.1.2 i ≤ 255) ∧
  (s 15 = nI S.2.2.2.1.1 ∧ S.2.2.2.1.1 ≤ 12 ∧ ∀ i, i < S.2.2.2.1.1 → a 15 i = nI (S.2.2.2.1.2 i) ∧ S.2.2.2.1.2 i ≤ 255) ∧ s 6 = bI S.2.1.1 ∧ (S.2.1.1 = true → keptA S.2.1.2 (a 11) 0)
/-- an answer, and the state behind it -/
def pMs (x : Int32 × SG) : xPost := fun v w => v = some (.int x.1) ∧ ∃ a s, relM x.2 a s ∧ w = eM a s
def refu (S : SG) (k : Nat) : SG := (S.1, S.2.1, S.2.2.1, S.2.2.2.1, inc S.2.2.2.2 k)
def refK (w : Int32) : Nat := (-w).toNatClampNeg
def rfs (S : SG) (w : Int32) : Int32 × SG := (w, refu S (refK w))
theorem relM_no {S : SG} {a : Nat → Nat → Int32} {s : Nat → Int32} (h : relM S a s) {k : Nat} : relM (refu S k) (aU a 6 (inc (a 6) k)) s := by
  obtain ⟨h1, h2, h3, h4, h5, h6⟩ := h
  refine ⟨h1, fun j hj1 hj6 => ?_, h3, h4, h5, h6⟩
  show inc (a 6) k j = inc S.2.2.2.2 k j
  unfold inc
  rw [upd_at, upd_at]
  by_cases e : j = k
  · subst e
    rw [if_pos rfl, if_pos rfl, h2 j hj1 hj6]
  · rw [if_neg e, if_neg e, h2 j hj1 hj6]
theorem bnd_c (v l m : Int32) : bndI v l m = 0 ∨ bndI v l m = -4 ∨ bndI v l m = -6 := by
  unfold bndI
  split
  · exact Or.inr (Or.inl rfl)
  · split
    · exact Or.inr (Or.inr rfl)
    · exact Or.inl rfl
theorem bnd_k {v l m : Int32} (h : ¬ bndI v l m = 0) : refK (bndI v l m) < 7 ∧ -(bndI v l m) = nI (refK (bndI v l m)) := by
  rcases bnd_c v l m with q | q | q
  · exact absurd q h
  · rw [q]; decide
  · rw [q]; decide
theorem bnd_0 {v : Int32} {l m : Nat} (hl : l < 2 ^ 31) (hm : m < 2 ^ 31) (h : bndI v (nI l) (nI m) = 0) : ∃ n, l ≤ n ∧ n ≤ m ∧ v = nI n := by
  unfold bndI at h
  split at h
  · exact absurd h (by decide)
  · split at h
    · exact absurd h (by decide)
    · next h1 h2 =>
      obtain ⟨j, hj, rfl⟩ := nI_of (x := v) (fun z => h1 (by
        rw [fa_lt] at z ⊢
        rw [nI_toInt hl]
        have : (0 : Int32).toInt = 0 := by decide
        omega))
      rw [nI_ltI hj hl] at h1
      rw [nI_ltI hm hj] at h2
      exact ⟨j, by omega, by omega, rfl⟩
theorem bnd_in {n l m : Nat} (hm : m < 2 ^ 31) (h1 : l ≤ n) (h2 : n ≤ m) : bndI (nI n) (nI l) (nI m) = 0 := by
  unfold bndI
  rw [if_neg (nI_nlt h1 (by omega)), if_neg (nI_nlt h2 (by omega))]
/-- a refusal, at the end of a call of the reference's -/
theorem m_end {tb : xT} {G : xK} {d : Nat} {S : SG} {a : Nat → Nat → Int32} {s : Nat → Int32} {pc pc2 n : Nat} {loc : xL} {r : Int32} {an : List (Int32 × Nat)} {j : Int64} (g2 : xG2 tb (some .int) (pMs (r, S)) G) (h : relM S a s) (hi : xlk tb pc = some (.ireturn, n, an, j)) : G pc loc [.int r] (eM a s) := xri' g2 hi ⟨rfl, a, s, h, rfl⟩
theorem m_feed (d : Nat) {S : SG} {a : Nat → Nat → Int32} {s : Nat → Int32} (hr : relM S a s) (x : Int32) : xCt xMs (d + 2) nX6_feed [.ref 0, .int x] (eM a s) (pMs (if ¬ bndI x 0 255 = 0 then rfs S (bndI x 0 255) else if S.2.2.1.1 = 80 then rfs S (-6) else (nI (S.2.2.1.1 + 1), S.1, S.2.1, (S.2.2.1.1 + 1, fun i => if i = S.2.2.1.1 then x.toNatClampNeg else S.2.2.1.2 i), S.2.2.2.1, S.2.2.2.2))) := by
  obtain ⟨h1, h2, ⟨h3, h30, h31⟩, h4, h5, h6⟩ := hr
  have hr : relM S a s := ⟨h1, h2, ⟨h3, h30, h31⟩, h4, h5, h6⟩
  refine xV (M := mX6_feed) rfl rfl rfl rfl rfl pX6_feed rfl (fun G g1 g2 g3 => ?_)
  refine xwp_go g1 [] 100 _ _ _ _ ?_
  refine xcallR (G := G) g3 [] (m_bound d [] x 0 255) ?_
  refine xwp_go g1 [] 100 _ _ _ _ ?_
  refine And.intro (fun h => ?_) (fun h => ?_)
  · refine And.intro (fun h' => absurd h' h) (fun _ => ?_)
    refine xcMW (G := G) g3 (m_no d a s (bnd_k h).1 (bnd_k h).2) ?_
    refine xwp_go g1 [] 100 _ _ _ _ ?_
    exact xri' (G := G) g2 rfl (by rw [if_pos h]; exact ⟨rfl, _, s, relM_no hr, rfl⟩)
  · obtain ⟨m, -, hm, rfl⟩ := bnd_0 (l := 0) (m := 255) (by decide) (by decide) h
    refine And.intro (fun h' => ?_) (fun h' => ?_) <;> rw [h3, show (80 : Int32) = nI 80 from rfl, nI_eq (by omega) (by decide)] at h'
    · refine And.intro (fun _ => ?_) (fun h'' => absurd h h'')
      have hin : vp_in (s 3) 80 := by rw [h3]; exact vp_in_nI (by omega) (by decide)
      have cl : (s 3).toNatClampNeg = S.2.2.1.1 := by rw [h3]; exact nI_clamp (by omega)
      refine And.intro hin ?_
      refine xri' (G := G) g2 rfl ?_
      rw [if_neg (fun z => z h), if_neg h']
      refine ⟨by rw [h3, nI_1], aU a 7 (upd (a 7) (s 3).toNatClampNeg (nI m)), sU s 3 (s 3 + 1), ⟨h1, h2, ⟨by show s 3 + 1 = _; rw [h3, nI_1], by show S.2.2.1.1 + 1 ≤ 80; omega, fun i hi => ?_⟩, h4, h5, h6⟩, rfl⟩
      show upd (a 7) (s 3).toNatClampNeg (nI m) i = nI (if i = S.2.2.1.1 then (nI m).toNatClampNeg else S.2.2.1.2 i) ∧ (if i = S.2.2.1.1 then (nI m).toNatClampNeg else S.2.2.1.2 i) ≤ 255
      rw [cl, upd_at, nI_clamp (by omega)]
      have hi : i < S.2.2.1.1 + 1 := hi
      by_cases e : i = S.2.2.1.1
      · rw [if_pos e, if_pos e]; exact ⟨rfl, hm⟩
      · rw [if_neg e, if_neg e]; exact h31 i (by omega)
    · refine And.intro (fun h'' => absurd h'' (by decide)) (fun _ => ?_)
      refine xcMW (G := G) g3 (m_no d a s (why := -6) (k := 6) (by decide) (by decide)) ?_
      refine xwp_go g1 [] 100 _ _ _ _ ?_
      exact xri' (G := G) g2 rfl (by rw [if_neg (fun z => z h), if_pos h']; exact ⟨rfl, _, s, relM_no (k := 6) hr, rfl⟩)
theorem m_row (d : Nat) {S : SG} {a : Nat → Nat → Int32} {s : Nat → Int32} (hr : relM S a s) (x : Int32) : xCt xMs (d + 2) nX6_row [.ref 0, .int x] (eM a s) (pMs (if ¬ bndI x 0 255 = 0 then rfs S (bndI x 0 255) else if S.2.2.2.1.1 = 12 then rfs S (-6) else (nI (S.2.2.2.1.1 + 1), S.1, S.2.1, S.2.2.1, (S.2.2.2.1.1 + 1, fun i => if i = S.2.2.2.1.1 then x.toNatClampNeg else S.2.2.2.1.2 i), S.2.2.2.2))) := by
  obtain ⟨h1, h2, h4, ⟨h3, h30, h31⟩, h5, h6⟩ := hr
  have hr : relM S a s := ⟨h1, h2, h4, ⟨h3, h30, h31⟩, h5, h6⟩
  refine xV (M := mX6_row) rfl rfl rfl rfl rfl pX6_row rfl (fun G g1 g2 g3 => ?_)
  refine xwp_go g1 [] 100 _ _ _ _ ?_
  refine xcallR (G := G) g3 [] (m_bound d [] x 0 255) ?_
  refine xwp_go g1 [] 100 _ _ _ _ ?_
  refine And.intro (fun h => ?_) (fun h => ?_)
  · refine And.intro (fun h' => absurd h' h) (fun _ => ?_)
    refine xcMW (G := G) g3 (m_no d a s (bnd_k h).1 (bnd_k h).2) ?_
    refine xwp_go g1 [] 100 _ _ _ _ ?_
    exact xri' (G := G) g2 rfl (by rw [if_pos h]; exact ⟨rfl, _, s, relM_no hr, rfl⟩)
  · obtain ⟨m, -, hm, rfl⟩ := bnd_0 (l := 0) (m := 255) (by decide) (by decide) h
    refine And.intro (fun h' => ?_) (fun h' => ?_) <;> rw [h3, show (12 : Int32) = nI 12 from rfl, nI_eq (by omega) (by decide)] at h'
    · refine And.intro (fun _ => ?_) (fun h'' => absurd h h'')
      have hin : vp_in (s 15) 12 := by rw [h3]; exact vp_in_nI (by omega) (by decide)
      have cl : (s 15).toNatClampNeg = S.2.2.2.1.1 := by rw [h3]; exact nI_clamp (by omega)
      refine And.intro hin ?_
      refine xri' (G := G) g2 rfl ?_
      rw [if_neg (fun z => z h), if_neg h']
      refine ⟨by rw [h3, nI_1], aU a 15 (upd (a 15) (s 15).toNatClampNeg (nI m)), sU s 15 (s 15 + 1), ⟨h1, h2, h4, ⟨by show s 15 + 1 = _; rw [h3, nI_1], by show S.2.2.2.1.1 + 1 ≤ 12; omega, fun i hi => ?_⟩, h5, h6⟩, rfl⟩
      show upd (a 15) (s 15).toNatClampNeg (nI m) i = nI (if i = S.2.2.2.1.1 then (nI m).toNatClampNeg else S.2.2.2.1.2 i) ∧ (if i = S.2.2.2.1.1 then (nI m).toNatClampNeg else S.2.2.2.1.2 i) ≤ 255
      rw [cl, upd_at, nI_clamp (by omega)]
      have hi : i < S.2.2.2.1.1 + 1 := hi
      by_cases e : i = S.2.2.2.1.1
      · rw [if_pos e, if_pos e]; exact ⟨rfl, hm⟩
      · rw [if_neg e, if_neg e]; exact h31 i (by omega)
    · refine And.intro (fun h'' => absurd h'' (by decide)) (fun _ => ?_)
      refine xcMW (G := G) g3 (m_no d a s (why := -6) (k := 6) (by decide) (by decide)) ?_
      refine xwp_go g1 [] 100 _ _ _ _ ?_
      exact xri' (G := G) g2 rfl (by rw [if_neg (fun z => z h), if_pos h']; exact ⟨rfl, _, s, relM_no (k := 6) hr, rfl⟩)
def setQ (S : SG) (q : LQ) : SG := (q, S.2)
theorem relM_q {S : SG} {a a' : Nat → Nat → Int32} {s s' : Nat → Int32} (h : relM S a s) {q : LQ} (hq : relS q a' s') (ha : ∀ r, 6 ≤ r → a' r = a r) (hs : ∀ r, 3 ≤ r → s' r = s r) : relM (setQ S q) a' s' := by
  obtain ⟨h1, h2, h3, h4, h5, h6⟩ := h
  refine ⟨hq, ?_, ?_, ?_, ?_, ?_⟩
  · rw [ha 6 (by decide)]; exact h2
  · rw [ha 7 (by decide), hs 3 (by decide)]; exact h3
  · rw [ha 15 (by decide), hs 15 (by decide)]; exact h4
  · rw [hs 6 (by decide)]; exact h5
  · rw [ha 11 (by decide)]; exact h6
theorem m_heat (d : Nat) {S : SG} {a : Nat → Nat → Int32} {s : Nat → Int32} (hr : relM S a s) (x : Int32) : xCt xMs (d + 2) nX6_heat [.ref 0, .int x] (eM a s) (pMs (if ¬ bndI x 1 9 = 0 then rfs S (bndI x 1 9) else (nI (S.1 6 2), setQ S (heatQ S.1 x.toNatClampNeg)))) := by
  refine xV (M := mX6_heat) rfl rfl rfl rfl rfl pX6_heat rfl (fun G g1 g2 g3 => ?_)
  refine xwp_go g1 [] 100 _ _ _ _ ?_
  refine xcallR (G := G) g3 [] (m_bound d [] x 1 9) ?_
  refine xwp_go g1 [] 100 _ _ _ _ ?_
  refine And.intro (fun h => ?_) (fun h => ?_)
  · obtain ⟨m, hm1, hm, rfl⟩ := bnd_0 (l := 1) (m := 9) (by decide) (by decide) h
    refine xri' (G := G) g2 rfl ?_
    rw [if_neg (fun z => z h), nI_clamp (by omega)]
    exact ⟨by rw [hr.1.2.2.2.2.2], a, sU s 2 (nI m), relM_q hr (rel_heat hr.1 hm1 hm rfl rfl rfl) (fun _ _ => rfl) (fun r h3 => sU_ne (by omega)), rfl⟩
  · refine xcMW (G := G) g3 (m_no d a s (bnd_k h).1 (bnd_k h).2) ?_
    refine xwp_go g1 [] 100 _ _ _ _ ?_
    exact xri' (G := G) g2 rfl (by rw [if_pos h]; exact ⟨rfl, _, s, relM_no hr, rfl⟩)
theorem m_price (d : Nat) {S : SG} {a : Nat → Nat → Int32} {s : Nat → Int32} (hr : relM S a s) (x v : Int32) : xCt xMs (d + 2) nX6_price [.ref 0, .int x, .int v] (eM a s) (pMs (if hasB (S.1 6 0) x = false then rfs S (-1) else if ¬ bndI v 0 99 = 0 then rfs S (bndI v 0 99) else (nI (S.1 3 x.toNatClampNeg), setQ S (priceQ S.1 x.toNatClampNeg v.toNatClampNeg)))) := by
  have h8 := hr.1.1.1
  refine xV (M := mX6_price) rfl rfl rfl rfl rfl pX6_price rfl (fun G g1 g2 g3 => ?_)
  refine xwp_go g1 [] 100 _ _ _ _ ?_
  refine xcM (G := G) g3 (m_isSlide d hr.1 x) ?_
  refine xwp_go g1 [] 100 _ _ _ _ ?_
  refine And.intro (fun h => ?_) (fun h => ?_) <;> rw [bI_0] at h
  · have h' := Bool.not_eq_false _ ▸ h
    obtain ⟨i, hi, rfl⟩ := hasB_of (by omega) h'
    refine xcallR (G := G) g3 [] (m_bound d [] v 0 99) ?_
    refine xwp_go g1 [] 100 _ _ _ _ ?_
    refine And.intro (fun h2 => ?_) (fun h2 => ?_)
    · obtain ⟨m, -, hm, rfl⟩ := bnd_0 (l := 0) (m := 99) (by decide) (by decide) h2
      have hin : vp_in (nI i) 8 := vp_in_nI (by omega) (by decide)
      refine And.intro hin (And.intro hin ?_)
      refine xri' (G := G) g2 rfl ?_
      rw [if_neg h, if_neg (fun z => z h2), nI_clamp (by omega), nI_clamp (by omega)]
      exact ⟨by rw [(hr.1.2.1 i hi).2.2.2.1], aU a 3 (upd (a 3) i (nI m)), s, relM_q hr (rel_price hr.1 hi hm rfl rfl rfl rfl rfl (fun j => rfl)) (fun r h3 => aU_ne (by omega)) (fun _ _ => rfl), rfl⟩
    · refine xcMW (G := G) g3 (m_no d a s (bnd_k h2).1 (bnd_k h2).2) ?_
      refine xwp_go g1 [] 100 _ _ _ _ ?_
      exact xri' (G := G) g2 rfl (by rw [if_neg h, if_pos h2]; exact ⟨rfl, _, s, relM_no hr, rfl⟩)
  · refine xcMW (G := G) g3 (m_no d a s (why := -1) (k := 1) (by decide) (by decide)) ?_
    refine xwp_go g1 [] 100 _ _ _ _ ?_
    exact xri' (G := G) g2 rfl (by rw [if_pos h]; exact ⟨rfl, _, s, relM_no (k := 1) hr, rfl⟩)
