/-! one statement of the letters: the reference's -/
def bodR (T : Nat → Nat) (N i : Nat) : Bool × Nat := if T i = 115 then sldR T N (i + 1) else if T i = 119 then (decide (picW T N (i + 1) = 16), i + 1 + picW T N (i + 1)) else if isDg T N (i + 1) = true then (true, i + 2) else (false, i + 1)
def isOp (T : Nat → Nat) (N i : Nat) : Bool := decide (i < N ∧ (T i = 115 ∨ T i = 119 ∨ T i = 104))
def stmR (T : Nat → Nat) (N i : Nat) : Bool × Nat := if isOp T N i = false then (false, i) else if (bodR T N i).1 = false then (false, (bodR T N i).2) else if ¬ ((bodR T N i).2 < N ∧ T (bodR T N i).2 = 59) then (false, (bodR T N i).2) else (true, (bodR T N i).2 + 1)
def datN (T : Nat → Nat) (N i : Nat) : Nat → Nat
  | 0 => if T i = 119 then pcvN T (i + 1) 16 else T (i + 1) - 48
  | 1 => T (i + 2) - 48
  | 2 => valN T (i + 3) (prcW T N (i + 3))
  | _ => pcvN T (i + 4 + prcW T N (i + 3)) 16
def toldF (T : Nat → Nat) (N i c : Nat) (f : Nat → Int32) : Prop := f (4 * c) = nI (datN T N i 0) ∧ (T i = 115 → f (4 * c + 1) = nI (datN T N i 1) ∧ f (4 * c + 2) = nI (datN T N i 2) ∧ f (4 * c + 3) = nI (datN T N i 3))
theorem picW_le (T : Nat → Nat) (N j : Nat) : picW T N j ≤ 16 := runN_le _ _
theorem prcW_le (T : Nat → Nat) (N j : Nat) : prcW T N j ≤ 2 := runN_le _ _
theorem sldR_le (T : Nat → Nat) (N j : Nat) : (sldR T N j).2 ≤ j + 21 := by
  have h1 := prcW_le T N (j + 2)
  have h2 := picW_le T N (j + 3 + prcW T N (j + 2))
  unfold sldR
  split
  · show j ≤ _; omega
  · split
    · show j + 1 ≤ _; omega
    · split
      · show j + 2 ≤ _; omega
      · split
        · show j + 2 + prcW T N (j + 2) ≤ _; omega
        · show j + 3 + prcW T N (j + 2) + picW T N (j + 3 + prcW T N (j + 2)) ≤ _; omega
theorem bodR_le (T : Nat → Nat) (N i : Nat) : (bodR T N i).2 ≤ i + 22 := by
  have h1 := sldR_le T N (i + 1)
  have h2 := picW_le T N (i + 1)
  unfold bodR
  split
  · omega
  · split
    · show i + 1 + picW T N (i + 1) ≤ _; omega
    · split
      · show i + 2 ≤ _; omega
      · show i + 1 ≤ _; omega
def stmP (T : Nat → Nat) (N i c : Nat) (a : Nat → Nat → Int32) (s : Nat → Int32) : xPost := fun v w => v = some (.int (bI (stmR T N i).1)) ∧ ∃ f8 f9 f10, (∀ k, k < c → f8 k = a 8 k ∧ f9 k = a 9 k) ∧ (∀ k, k < 4 * c → f10 k = a 10 k) ∧ ((stmR T N i).1 = true → f8 c = nI (T i) ∧ f9 c = nI i ∧ toldF T N i c f10) ∧ w = eM (aU (aU (aU a 8 f8) 9 f9) 10 f10) (sU s 4 (nI (stmR T N i).2))
theorem m_statement (d : Nat) {T : Nat → Nat} {N : Nat} {a : Nat → Nat → Int32} {s : Nat → Int32} (ht : tapeM T N a s) {i c : Nat} (hi : i < 400) (hc : c < 32) (h4 : s 4 = nI i) (h5 : s 5 = nI c) : xCt xMs (d + 4) nX6_statement [.ref 0] (eM a s) (stmP T N i c a s) := by
  have hb := bodR_le T N i
  refine xV (M := mX6_statement) rfl rfl rfl rfl rfl pX6_statement rfl (fun G g1 g2 g3 => ?_)
  refine xwp_go g1 [] 100 _ _ _ _ ?_
  refine xcM (G := G) g3 (m_next (d + 2) ht (i := i) (by omega) h4) ?_
  have hT := fun h => (ht.2.2 i h).2
  cases hop : isOp T N i with
  | false =>
    have ho := of_decide_eq_false hop
    have es : stmR T N i = (false, i) := by unfold stmR; rw [if_pos hop]
    unfold stmP at g2
    rw [es] at g2
    refine xwp_go g1 [] 100 _ _ _ _ ?_
    refine And.intro (fun h => ?_) (fun _ => ?_)
    · rw [show (115 : Int32) = nI 115 from rfl, nx_eq hT (by decide)] at h
      exact absurd ⟨h.1, Or.inl h.2⟩ ho
    refine And.intro (fun h => ?_) (fun _ => ?_)
    · rw [show (119 : Int32) = nI 119 from rfl, nx_eq hT (by decide)] at h
      exact absurd ⟨h.1, Or.inr (Or.inl h.2)⟩ ho
    refine And.intro (fun h => ?_) (fun _ => ?_)
    · rw [show (104 : Int32) = nI 104 from rfl, nx_eq hT (by decide)] at h
      exact absurd ⟨h.1, Or.inr (Or.inr h.2)⟩ ho
    exact xrz' (G := G) g2 rfl (Or.inl rfl) ⟨rfl, a 8, a 9, a 10, fun _ _ => ⟨rfl, rfl⟩, fun _ _ => rfl, fun h => (by cases h), by rw [← h4]; rfl⟩
  | true =>
    obtain ⟨hiN, hop3⟩ := of_decide_eq_true hop
    have hTi := hT hiN
    rw [show nxI T N i = nI (T i) from by unfold nxI; rw [if_pos hiN]]
    have es : stmR T N i = if (bodR T N i).1 = false then (false, (bodR T N i).2) else if ¬ ((bodR T N i).2 < N ∧ T (bodR T N i).2 = 59) then (false, (bodR T N i).2) else (true, (bodR T N i).2 + 1) := by unfold stmR; rw [if_neg (by rw [hop]; decide)]
    have hin : vp_in (s 5) 32 := by rw [h5]; exact vp_in_nI hc (by decide)
    have cl : (s 5).toNatClampNeg = c := by rw [h5]; exact nI_clamp (by omega)
    have e4c : (4 : Int32) * s 5 = nI (4 * c) := by rw [h5, show (4 : Int32) = nI 4 from rfl, pk_mul]
    have e41 : s 4 + 1 = nI (i + 1) := by rw [h4, nI_1]
    generalize hF8 : upd (a 8) c (nI (T i)) = F8
    generalize hF9 : upd (a 9) c (nI i) = F9
    have k8 : ∀ k, k < c → F8 k = a 8 k := fun k hk => by rw [← hF8, upd_at, if_neg (by omega)]
    have k9 : ∀ k, k < c → F9 k = a 9 k := fun k hk => by rw [← hF9, upd_at, if_neg (by omega)]
    have k8c : F8 c = nI (T i) := by rw [← hF8, upd_at, if_pos rfl]
    have k9c : F9 c = nI i := by rw [← hF9, upd_at, if_pos rfl]
    have bad : ∀ f10 loc, (∀ k, k < 4 * c → f10 k = a 10 k) → (stmR T N i) = (false, (bodR T N i).2) → G 117 loc [] (eM (aU (aU (aU a 8 F8) 9 F9) 10 f10) (sU s 4 (nI (bodR T N i).2))) := by
      intro f10 loc hf er
      unfold stmP at g2
      rw [er] at g2
      refine xwp_go g1 [] 100 _ _ _ _ ?_
      exact xrz' (G := G) g2 rfl (Or.inl rfl) ⟨rfl, F8, F9, f10, fun k hk => ⟨k8 k hk, k9 k hk⟩, hf, fun h => (by cases h), rfl⟩
    have fin : ∀ f10 loc, (bodR T N i).1 = true → (∀ k, k < 4 * c → f10 k = a 10 k) → toldF T N i c f10 → G 108 ([some (.ref 0)] ++ loc) [] (eM (aU (aU (aU a 8 F8) 9 F9) 10 f10) (sU s 4 (nI (bodR T N i).2))) := by
      intro f10 loc hok hf htold
      rw [if_neg (by rw [hok]; decide)] at es
      refine xwp_go g1 [117] 100 _ _ _ _ ?_
      refine xcM (G := G) g3 (m_next (d + 2) (a := aU (aU (aU a 8 F8) 9 F9) 10 f10) (s := sU s 4 (nI (bodR T N i).2)) ht (i := (bodR T N i).2) (by omega) rfl) ?_
      refine xwp_go g1 [117] 100 _ _ _ _ ?_
      refine And.intro (fun h => ?_) (fun h => ?_) <;> rw [show (59 : Int32) = nI 59 from rfl, nx_eq (fun h => (ht.2.2 _ h).2) (by decide)] at h
      · rw [if_neg (fun z => z h)] at es
        unfold stmP at g2
        rw [es] at g2
        refine xrz' (G := G) g2 rfl (Or.inr rfl) ⟨rfl, F8, F9, f10, fun k hk => ⟨k8 k hk, k9 k hk⟩, hf, fun _ => ⟨k8c, k9c, htold⟩, ?_⟩
        rw [← nI_1]
        rfl
      · rw [if_pos h] at es
        exact bad f10 _ hf es
    have main : G 65 [some (.ref 0), some (.int (nI (T i))), some (.int (nI (4 * c)))] [] (eM (aU (aU a 8 F8) 9 F9) (sU s 4 (nI (i + 1)))) := by
      refine xwp_go g1 [117, 108] 100 _ _ _ _ ?_
      refine And.intro (fun h => ?_) (fun h => ?_) <;> rw [show (115 : Int32) = nI 115 from rfl, nI_eq (by omega) (by decide)] at h
      · refine And.intro (fun h2 => ?_) (fun h2 => ?_) <;> rw [show (119 : Int32) = nI 119 from rfl, nI_eq (by omega) (by decide)] at h2
        · have eb : bodR T N i = if isDg T N (i + 1) = true then (true, i + 2) else (false, i + 1) := by unfold bodR; rw [if_neg h, if_neg h2]
          refine xcMP (G := G) g3 (m_readsNumber (d + 1) (a := aU (aU a 8 F8) 9 F9) (s := sU s 4 (nI (i + 1))) ht (i := i + 1) (pl := 4 * c) (mo := 1) (by omega) rfl (by omega) (by decide) (by decide)) (fun v w hp => by
            split at hp
            · exact ⟨_, _, hp.2⟩
            · exact ⟨_, _, hp.2⟩) (fun v a' s' hpp => ?_)
          cases hd : isDg T N (i + 1) with
          | false =>
            rw [if_neg (by rw [hd]; decide)] at hpp eb
            obtain ⟨rfl, e⟩ := hpp
            rw [e]
            refine xwp_go g1 [117, 108] 100 _ _ _ _ ?_
            refine And.intro (fun _ => ?_) (fun h => absurd rfl h)
            have := bad (a 10) [some (.ref 0), some (.int (nI (T i))), some (.int (nI (4 * c)))] (fun _ _ => rfl) (by rw [es, eb, if_pos rfl])
            rw [eb] at this
            exact this
          | true =>
            rw [if_pos hd, dg_one hd, val_one] at hpp
            rw [if_pos hd] at eb
            obtain ⟨rfl, e⟩ := hpp
            rw [e]
            refine xwp_go g1 [117, 108] 100 _ _ _ _ ?_
            refine And.intro (fun h => absurd h (by decide)) (fun _ => ?_)
            have := fin (upd (a 10) (4 * c) (nI (T (i + 1) - 48))) [some (.int (nI (T i))), some (.int (nI (4 * c)))] (by rw [eb]) (fun k hk => by rw [upd_at, if_neg (by omega)]) ⟨by rw [upd_at, if_pos rfl]; show _ = nI (if T i = 119 then _ else _); rw [if_neg h2], fun z => absurd z h⟩
            rw [eb] at this
            exact this
        · have eb : bodR T N i = (decide (picW T N (i + 1) = 16), i + 1 + picW T N (i + 1)) := by unfold bodR; rw [if_neg h, if_pos h2]
          refine xcMP (G := G) g3 (m_readsPicture (d + 1) (a := aU (aU a 8 F8) 9 F9) (s := sU s 4 (nI (i + 1))) ht (i := i + 1) (pl := 4 * c) (by omega) rfl (by omega)) (fun v w hp => ⟨_, _, hp.2.choose_spec.2⟩) (fun v a' s' hpp => ?_)
          rw [show runN (fun k => isCl T N (i + 1 + k)) 16 = picW T N (i + 1) from rfl] at hpp
          generalize picW T N (i + 1) = r at eb hpp
          obtain ⟨rfl, f, hf, e⟩ := hpp
          rw [e]
          have hf4 : ∀ k, k < 4 * c → f k = a 10 k := fun k hk => by rw [hf, if_neg (by omega)]; rfl
          by_cases e16 : r = 16
          · have := fin f [some (.int (nI (T i))), some (.int (nI (4 * c)))] (by rw [eb]; exact decide_eq_true e16) hf4 ⟨by rw [hf, if_pos rfl, e16]; show _ = nI (if T i = 119 then _ else _); rw [if_pos h2], fun z => absurd z h⟩
            rw [eb] at this
            rw [decide_eq_true e16]
            refine xwp_go g1 [117, 108] 100 _ _ _ _ ?_
            exact And.intro (fun h => absurd h (by decide)) (fun _ => this)
          · have := bad f [some (.ref 0), some (.int (nI (T i))), some (.int (nI (4 * c)))] hf4 (by rw [es, eb, if_pos (decide_eq_false e16)])
            rw [eb] at this
            rw [decide_eq_false e16]
            refine xwp_go g1 [117, 108] 100 _ _ _ _ ?_
            exact And.intro (fun _ => this) (fun h => absurd rfl h)
      · have eb : bodR T N i = sldR T N (i + 1) := by unfold bodR; rw [if_pos h]
        refine xcMP (G := G) g3 (m_readsSlide d (a := aU (aU a 8 F8) 9 F9) (s := sU s 4 (nI (i + 1))) ht (j := i + 1) (pl := 4 * c) (by omega) rfl (by omega)) (fun v w hp => ⟨_, _, hp.2.choose_spec.2.2⟩) (fun v a' s' hpp => ?_)
        obtain ⟨rfl, f, hf, hok, e⟩ := hpp
        rw [e]
        rw [← eb] at hok
        cases hk : (bodR T N i).1 with
        | false =>
          have := bad f [some (.ref 0), some (.int (nI (T i))), some (.int (nI (4 * c)))] hf (by rw [es, if_pos hk])
          rw [← eb, hk]
          refine xwp_go g1 [117, 108] 100 _ _ _ _ ?_
          exact And.intro (fun _ => this) (fun h => absurd rfl h)
        | true =>
          obtain ⟨q0, q1, q2, q3⟩ := hok hk
          have := fin f [some (.int (nI (T i))), some (.int (nI (4 * c)))] hk hf ⟨by rw [q0]; show _ = nI (if T i = 119 then _ else _); rw [if_neg (by omega)], fun _ => ⟨q1, q2, by rw [q3]; show nI (pcvN T (i + 1 + 3 + prcW T N (i + 3)) 16) = nI (pcvN T (i + 4 + prcW T N (i + 3)) 16); rw [show i + 1 + 3 = i + 4 from rfl]⟩⟩
          rw [← eb, hk]
          refine xwp_go g1 [117, 108] 100 _ _ _ _ ?_
          exact And.intro (fun h => absurd h (by decide)) (fun _ => this)
    have go : G 25 [some (.ref 0), some (.int (nI (T i))), none] [] (eM a s) := by
      refine xwp_go g1 [65] 100 _ _ _ _ ?_
      refine And.intro hin (And.intro hin ?_)
      show G 65 [some (.ref 0), some (.int (nI (T i))), some (.int ((4 : Int32) * s 5))] [] (eM (aU (aU a 8 (upd (a 8) (s 5).toNatClampNeg (nI (T i)))) 9 (upd (a 9) (s 5).toNatClampNeg (s 4))) (sU s 4 (s 4 + 1)))
      rw [cl, e4c, e41, h4, hF8, hF9]
      exact main
    refine xwp_go g1 [25] 100 _ _ _ _ ?_
    refine And.intro (fun _ => go) (fun n1 => And.intro (fun _ => go) (fun n2 => And.intro (fun _ => go) (fun n3 => ?_)))
    rcases hop3 with e | e | e
    · exact absurd (by rw [e]; rfl) n1
    · exact absurd (by rw [e]; rfl) n2
    · exact absurd (by rw [e]; rfl) n3
