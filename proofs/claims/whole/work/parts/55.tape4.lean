/-! what a statement does to a lantern; the reference's comes -/
def appQ (T : Nat → Nat) (N i : Nat) (q : LQ) : Option LQ := if T i = 104 then (if 1 ≤ datN T N i 0 then some (heatQ q (datN T N i 0)) else none) else if T i = 119 then (if q 6 1 < 6 then some (wantQ q (datN T N i 0)) else none) else (if datN T N i 0 ≤ 5 ∧ q 6 0 < 8 then some (addQ q (datN T N i 0) (datN T N i 1) (datN T N i 2) (datN T N i 3)) else none)
/-- a statement's numbers are in bounds -/
def datB (T : Nat → Nat) (N i : Nat) : Prop := (T i = 115 ∧ datN T N i 0 ≤ 9 ∧ datN T N i 1 ≤ 9 ∧ datN T N i 2 ≤ 99 ∧ datN T N i 3 < 65536) ∨ (T i = 119 ∧ datN T N i 0 < 65536) ∨ (T i = 104 ∧ datN T N i 0 ≤ 9)
theorem m_comes (d : Nat) {T : Nat → Nat} {N i c : Nat} (hc : c < 32) {q : LQ} {a : Nat → Nat → Int32} {s : Nat → Int32} (hr : relS q a s) (hB : datB T N i) (h8 : a 8 c = nI (T i)) (h10 : toldF T N i c (a 10)) : xCt xMs (d + 1) nX6_comes [.ref 0, .int (nI c)] (eM a s) (fun v w => v = some (.int (bI (appQ T N i q).isSome)) ∧ ∃ a' s', (∀ q', appQ T N i q = some q' → relS q' a' s') ∧ (∀ r, 6 ≤ r → a' r = a r) ∧ (∀ r, 3 ≤ r → s' r = s r) ∧ w = eM a' s') := by
  have p8 := hr.1.1
  have p6 := hr.1.2.1
  have h0 := hr.2.2.2.1
  have h1 := hr.2.2.2.2.1
  obtain ⟨t0, t1⟩ := h10
  have e4c : (4 : Int32) * nI c = nI (4 * c) := by rw [show (4 : Int32) = nI 4 from rfl, pk_mul]
  have cl8 : (nI c).toNatClampNeg = c := nI_clamp (by omega)
  have hin8 : vp_in (nI c) 32 := vp_in_nI hc (by decide)
  have hTi : T i ≤ 255 := by rcases hB with h | h | h <;> omega
  refine xV (M := mX6_comes) rfl rfl rfl rfl rfl pX6_comes rfl (fun G g1 g2 g3 => ?_)
  refine xwp_go g1 [4] 100 _ _ _ _ ?_
  show G 4 [some (.ref 0), some (.int (nI c)), some (.int ((4 : Int32) * nI c))] [] (eM a s)
  rw [e4c]
  have cl : (nI (4 * c)).toNatClampNeg = 4 * c := nI_clamp (by omega)
  have hin : vp_in (nI (4 * c)) 128 := vp_in_nI (by omega) (by decide)
  have v0 : a 10 (nI (4 * c)).toNatClampNeg = nI (datN T N i 0) := by rw [cl]; exact t0
  have v8 : a 8 (nI c).toNatClampNeg = nI (T i) := by rw [cl8]; exact h8
  refine xwp_go g1 [108] 100 _ _ _ _ ?_
  refine And.intro hin8 ?_
  refine And.intro (fun h => ?_) (fun h => ?_) <;> rw [v8, show (104 : Int32) = nI 104 from rfl, nI_eq (by omega) (by decide)] at h
  · refine And.intro hin8 ?_
    refine And.intro (fun h2 => ?_) (fun h2 => ?_) <;> rw [v8, show (119 : Int32) = nI 119 from rfl, nI_eq (by omega) (by decide)] at h2
    · -- a slide
      have h5 : T i = 115 := by rcases hB with g | g | g <;> omega
      obtain ⟨b0, b1, b2, b3⟩ : datN T N i 0 ≤ 9 ∧ datN T N i 1 ≤ 9 ∧ datN T N i 2 ≤ 99 ∧ datN T N i 3 < 65536 := by
        rcases hB with g | g | g
        · exact g.2
        · omega
        · omega
      obtain ⟨u1, u2, u3⟩ := t1 h5
      have ea : appQ T N i q = if datN T N i 0 ≤ 5 ∧ q 6 0 < 8 then some (addQ q (datN T N i 0) (datN T N i 1) (datN T N i 2) (datN T N i 3)) else none := by unfold appQ; rw [if_neg h, if_neg h2]
      rw [ea] at g2
      generalize datN T N i 0 = d0 at *
      generalize datN T N i 1 = d1 at *
      generalize datN T N i 2 = d2 at *
      generalize datN T N i 3 = d3 at *
      have no : ¬ (d0 ≤ 5 ∧ q 6 0 < 8) → ∀ loc, G 108 loc [] (eM a s) := by
        intro hn loc
        rw [if_neg hn] at g2
        refine xwp_go g1 [] 100 _ _ _ _ ?_
        exact xrz' (G := G) g2 rfl (Or.inl rfl) ⟨rfl, a, s, fun q' hq => (by cases hq), fun _ _ => rfl, fun _ _ => rfl, rfl⟩
      refine And.intro hin ?_
      refine And.intro (fun h3 => ?_) (fun h3 => ?_) <;> rw [v0, show (5 : Int32) = nI 5 from rfl, nI_ltI (by decide) (by omega)] at h3
      · exact no (by omega) _
      refine And.intro (fun h4 => ?_) (fun h4 => ?_) <;> rw [h0, show (8 : Int32) = nI 8 from rfl, nI_eq (by omega) (by decide)] at h4
      · rw [if_pos ⟨by omega, by omega⟩] at g2
        have hinS : vp_in (s 0) 8 := by rw [h0]; exact vp_in_nI (by omega) (by decide)
        have clS : (s 0).toNatClampNeg = q 6 0 := by rw [h0]; exact nI_clamp (by omega)
        have e1 : nI (4 * c) + 1 = nI (4 * c + 1) := nI_1 _
        have e2 : nI (4 * c) + 2 = nI (4 * c + 2) := nI_add _ 2
        have e3 : nI (4 * c) + 3 = nI (4 * c + 3) := nI_add _ 3
        have w1 : a 10 (nI (4 * c) + 1).toNatClampNeg = nI d1 := by rw [e1, nI_clamp (by omega)]; exact u1
        have w2 : a 10 (nI (4 * c) + 2).toNatClampNeg = nI d2 := by rw [e2, nI_clamp (by omega)]; exact u2
        have w3 : a 10 (nI (4 * c) + 3).toNatClampNeg = nI d3 := by rw [e3, nI_clamp (by omega)]; exact u3
        have i1 : vp_in (nI (4 * c) + 1) 128 := by rw [e1]; exact vp_in_nI (by omega) (by decide)
        have i2 : vp_in (nI (4 * c) + 2) 128 := by rw [e2]; exact vp_in_nI (by omega) (by decide)
        have i3 : vp_in (nI (4 * c) + 3) 128 := by rw [e3]; exact vp_in_nI (by omega) (by decide)
        refine And.intro hin (And.intro hinS (And.intro i1 (And.intro hinS (And.intro i2 (And.intro hinS (And.intro i3 (And.intro hinS (And.intro hinS ?_))))))))
        refine xrz' (G := G) g2 rfl (Or.inr rfl) ⟨rfl, aU (aU (aU (aU (aU a 0 (upd (a 0) (s 0).toNatClampNeg (a 10 (nI (4 * c)).toNatClampNeg))) 1 (upd (a 1) (s 0).toNatClampNeg (a 10 (nI (4 * c) + 1).toNatClampNeg))) 3 (upd (a 3) (s 0).toNatClampNeg (a 10 (nI (4 * c) + 2).toNatClampNeg))) 2 (upd (a 2) (s 0).toNatClampNeg (a 10 (nI (4 * c) + 3).toNatClampNeg))) 4 (upd (a 4) (s 0).toNatClampNeg 0), sU s 0 (s 0 + 1), fun q' hq => ?_, fun r hr6 => ?_, fun r hr3 => sU_ne (by omega), rfl⟩
        · cases hq
          refine rel_add hr (by omega) (by omega) b1 b2 b3 rfl ?_ ?_ ?_ ?_ ?_ ?_ rfl rfl
          · intro j; show upd (a 0) _ _ j = _; rw [clS, v0]; rfl
          · intro j; show upd (a 1) _ _ j = _; rw [clS, w1]; rfl
          · intro j; show upd (a 2) _ _ j = _; rw [clS, w3]; rfl
          · intro j; show upd (a 3) _ _ j = _; rw [clS, w2]; rfl
          · intro j; show upd (a 4) _ _ j = _; rw [clS]; rfl
          · show s 0 + 1 = _
            rw [h0, nI_1]
        · rw [aU_ne (by omega), aU_ne (by omega), aU_ne (by omega), aU_ne (by omega), aU_ne (by omega)]
      · exact no (by omega) _
    · -- a wish
      have b0 : datN T N i 0 < 65536 := by
        rcases hB with g | g | g
        · omega
        · exact g.2
        · omega
      have ea : appQ T N i q = if q 6 1 < 6 then some (wantQ q (datN T N i 0)) else none := by unfold appQ; rw [if_neg h, if_pos h2]
      rw [ea] at g2
      generalize datN T N i 0 = d0 at *
      refine And.intro (fun h4 => ?_) (fun h4 => ?_) <;> rw [h1, show (6 : Int32) = nI 6 from rfl, nI_eq (by omega) (by decide)] at h4
      · rw [if_pos (by omega)] at g2
        have hinS : vp_in (s 1) 6 := by rw [h1]; exact vp_in_nI (by omega) (by decide)
        have clS : (s 1).toNatClampNeg = q 6 1 := by rw [h1]; exact nI_clamp (by omega)
        refine And.intro hin (And.intro hinS ?_)
        refine xrz' (G := G) g2 rfl (Or.inr rfl) ⟨rfl, aU a 5 (upd (a 5) (s 1).toNatClampNeg (a 10 (nI (4 * c)).toNatClampNeg)), sU s 1 (s 1 + 1), fun q' hq => ?_, fun r hr6 => aU_ne (by omega), fun r hr3 => sU_ne (by omega), rfl⟩
        cases hq
        refine rel_want hr (by omega) b0 rfl rfl rfl rfl rfl (fun j => ?_) rfl ?_ rfl
        · show upd (a 5) _ _ j = _; rw [clS, v0]; rfl
        · show s 1 + 1 = _
          rw [h1, nI_1]
      · rw [if_neg (by omega)] at g2
        exact xrz' (G := G) g2 rfl (Or.inl rfl) ⟨rfl, a, s, fun q' hq => (by cases hq), fun _ _ => rfl, fun _ _ => rfl, rfl⟩
  · -- heat
    have b0 : datN T N i 0 ≤ 9 := by
      rcases hB with g | g | g
      · omega
      · omega
      · exact g.2
    have ea : appQ T N i q = if 1 ≤ datN T N i 0 then some (heatQ q (datN T N i 0)) else none := by unfold appQ; rw [if_pos h]
    rw [ea] at g2
    generalize datN T N i 0 = d0 at *
    refine And.intro hin (And.intro hin ?_)
    refine And.intro (fun h3 => ?_) (fun h3 => ?_) <;> rw [v0, show (0 : Int32) = nI 0 from rfl, nI_leI (by omega) (by decide)] at h3
    · rw [if_neg (by omega)] at g2
      exact xrz' (G := G) g2 rfl (Or.inl rfl) ⟨rfl, a, sU s 2 (a 10 (nI (4 * c)).toNatClampNeg), fun q' hq => (by cases hq), fun _ _ => rfl, fun r hr3 => sU_ne (by omega), rfl⟩
    · rw [if_pos (by omega)] at g2
      refine xrz' (G := G) g2 rfl (Or.inr rfl) ⟨rfl, a, sU s 2 (a 10 (nI (4 * c)).toNatClampNeg), fun q' hq => ?_, fun _ _ => rfl, fun r hr3 => sU_ne (by omega), rfl⟩
      cases hq
      exact rel_heat hr (by omega) b0 rfl rfl (by show a 10 (nI (4 * c)).toNatClampNeg = nI d0; exact v0)
