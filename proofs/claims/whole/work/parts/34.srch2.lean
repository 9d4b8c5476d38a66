/-! the class's Search: the four ways of going through -/
theorem ldS_tF {D : LD} {n : Nat} {b : Nat → Nat → Int32} {t : Nat → Int32} (h : ldS D n b t) (F : FF) : ldS D n b (tF t F) := h
theorem t_seekFewest {D : LD} {n : Nat} {b : Nat → Nat → Int32} {t : Nat → Int32} (hl : ldS D n b t) : ∀ j e i sh set ov F, j + 3 ≤ e → i + j = n → sh < 65536 → set < 2 ^ i → ov < 2 ^ i → okF F → xCt xMs e nX3_seekFewest [.ref 0, .int (nI i), .int (nI sh), .int (nI set), .int (nI ov)] (eS b (tF t F)) (xRetV (eS b (tF t (skF D j i sh set ov F)))) := by
  have h8 := hl.1
  intro j
  induction j with
  | zero =>
    intro e i sh set ov F he hij hsh hs ho hF
    obtain ⟨d, rfl⟩ : ∃ d, e = d + 3 := ⟨e - 3, by omega⟩
    have s8 := lt_256 hs (by omega)
    have o8 := lt_256 ho (by omega)
    have hp := pop_le set
    have e0 : tF t F 0 = nI n := hl.2.2.1
    have e3 : tF t F 3 = nI F.1 := rfl
    have f16 := hF.1
    refine xV (M := mX3_seekFewest) rfl rfl rfl rfl rfl pX3_seekFewest rfl (fun G g1 g2 g3 => ?_)
    unfold skF at g2
    refine xwp_go g1 [] 100 _ _ _ _ ?_
    refine And.intro (fun h => absurd h (nI_pos (by omega))) (fun _ => ?_)
    refine And.intro (fun h => ?_) (fun _ => ?_)
    · rw [e0] at h; exact absurd h (nI_nlt (by omega) (by omega))
    refine xcallR (G := G) g3 pS (t_out (d + 1) (ldS_tF hl F) (i := i) (by omega) hsh) ?_
    cases hO : outB D i sh with
    | true =>
      rw [if_pos hO] at g2
      refine xwp_go g1 [] 100 _ _ _ _ ?_
      exact And.intro (fun h => absurd h (by decide)) (fun _ => xrv (G := G) g2 rfl rfl)
    | false =>
      rw [if_neg (by rw [hO]; decide)] at g2
      refine xwp_go g1 [] 100 _ _ _ _ ?_
      refine And.intro (fun _ => ?_) (fun h => absurd rfl h)
      refine xcallR (G := G) g3 [] (c_bitCount (d + 1) [] (p := set) (by omega)) ?_
      refine xwp_go g1 [] 100 _ _ _ _ ?_
      refine And.intro (fun h => ?_) (fun h => ?_) <;> rw [e3, nI_leI (by omega) (by omega)] at h
      · rw [if_neg (by omega)] at g2
        refine And.intro (fun h => ?_) (fun _ => ?_)
        · rw [e0, nI_eq (by omega) (by omega)] at h; omega
        refine xcallV (G := G) g3 pS (t_note d hF s8 o8) ?_
        rw [xputS]
        refine xwp_go g1 [] 100 _ _ _ _ ?_
        exact xrv (G := G) g2 rfl rfl
      · rw [if_pos (by omega)] at g2
        exact xrv (G := G) g2 rfl rfl
  | succ j ih =>
    intro e i sh set ov F he hij hsh hs ho hF
    obtain ⟨d, rfl⟩ : ∃ d, e = d + 3 := ⟨e - 3, by omega⟩
    have s8 := lt_256 hs (by omega)
    have o8 := lt_256 ho (by omega)
    have hp := pop_le set
    have f16 := hF.1
    obtain ⟨b0, b1, -, x0, x1, -⟩ := hl.2.2.2.2.1 i (by omega)
    have cl : (nI i).toNatClampNeg = i := nI_clamp (by omega)
    have hin : vp_in (nI i) 8 := vp_in_nI (by omega) (by decide)
    have eb : (1 : Int32) <<< (nI i &&& 31) = nI (2 ^ i) := nI_pow (by omega)
    refine xV (M := mX3_seekFewest) rfl rfl rfl rfl rfl pX3_seekFewest rfl (fun G g1 g2 g3 => ?_)
    unfold skF at g2
    have e0 : tF t F 0 = nI n := hl.2.2.1
    have e3 : tF t F 3 = nI F.1 := rfl
    refine xwp_go g1 [] 100 _ _ _ _ ?_
    refine And.intro (fun h => absurd h (nI_pos (by omega))) (fun _ => ?_)
    refine And.intro (fun h => ?_) (fun _ => ?_)
    · rw [e0] at h; exact absurd h (nI_nlt (by omega) (by omega))
    refine xcallR (G := G) g3 pS (t_out (d + 1) (ldS_tF hl F) (i := i) (by omega) hsh) ?_
    cases hO : outB D i sh with
    | true =>
      rw [if_pos hO] at g2
      refine xwp_go g1 [] 100 _ _ _ _ ?_
      exact And.intro (fun h => absurd h (by decide)) (fun _ => xrv (G := G) g2 rfl rfl)
    | false =>
      rw [if_neg (by rw [hO]; decide)] at g2
      refine xwp_go g1 [] 100 _ _ _ _ ?_
      refine And.intro (fun _ => ?_) (fun h => absurd rfl h)
      refine xcallR (G := G) g3 [] (c_bitCount (d + 1) [] (p := set) (by omega)) ?_
      refine xwp_go g1 [] 100 _ _ _ _ ?_
      refine And.intro (fun h => ?_) (fun h => ?_) <;> rw [e3, nI_leI (by omega) (by omega)] at h
      · rw [if_neg (by omega)] at g2
        refine And.intro (fun _ => ?_) (fun h => ?_)
        · have k1 := skF_ok D h8 j (i + 1) sh set ov F (by omega) (up1 hs) (up1 ho) hF
          refine xcallV (G := G) g3 pS (agr4 (nI_1 i) rfl rfl rfl (ih (d + 2) (i + 1) sh set ov F (by omega) (by omega) hsh (up1 hs) (up1 ho) hF)) ?_
          rw [xputS]
          generalize skF D j (i + 1) sh set ov F = F1 at g2 k1
          have second : ∀ F2, okF F2 → xG2 mX3_seekFewest.2.2.2.2.1 mX3_seekFewest.2.2.2.1 (xRetV (eS b (tF t (onO (D.2.1 i) F2 (fun x => skF D j (i + 1) (sh ||| x) (set ||| 2 ^ i) (ov ||| 2 ^ i) F2))))) G → G 97 [some (.ref 0), some (.int (nI i)), some (.int (nI sh)), some (.int (nI set)), some (.int (nI ov)), some (.int ((1 : Int32) <<< (nI i &&& 31)))] [] (eS b (tF t F2)) := by
            intro F2 k2 g2
            refine xwp_go g1 [] 100 _ _ _ _ ?_
            refine And.intro hin ?_
            cases hg : D.2.1 i with
            | none =>
              rw [hg] at g2
              refine And.intro (fun _ => xrv (G := G) g2 rfl rfl) (fun h => absurd (by rw [cl, b1, hg]; rfl) h)
            | some y =>
              rw [hg] at g2
              have y16 := x1 y hg
              have by1 : b 1 (nI i).toNatClampNeg = nI y := by rw [cl, b1, hg]; rfl
              refine And.intro (fun h => ?_) (fun _ => ?_)
              · have hh := (encO_n (o := some y) (fun z hz => by cases hz; exact y16)).mp (by rw [← h, by1]; rfl)
                cases hh
              refine And.intro hin ?_
              refine xcallV (G := G) g3 pS (agr4 (nI_1 i) (show nI sh ||| b 1 (nI i).toNatClampNeg = nI (sh ||| y) by rw [by1, fa_or]) (show nI set ||| (1 : Int32) <<< (nI i &&& 31) = nI (set ||| 2 ^ i) by rw [eb, fa_or]) (show nI ov ||| (1 : Int32) <<< (nI i &&& 31) = nI (ov ||| 2 ^ i) by rw [eb, fa_or]) (ih (d + 2) (i + 1) (sh ||| y) (set ||| 2 ^ i) (ov ||| 2 ^ i) F2 (by omega) (by omega) (Nat.or_lt_two_pow (n := 16) hsh y16) (bitS_lt hs) (bitS_lt ho) k2)) ?_
              rw [xputS]
              refine xwp_go g1 [] 100 _ _ _ _ ?_
              exact xrv (G := G) g2 rfl rfl
          refine xwp_go g1 [97] 100 _ _ _ _ ?_
          refine And.intro hin ?_
          cases hf : D.1 i with
          | none =>
            rw [hf] at g2
            refine And.intro (fun _ => second F1 k1 g2) (fun h => absurd (by rw [cl, b0, hf]; rfl) h)
          | some y =>
            rw [hf] at g2
            have y16 := x0 y hf
            have by1 : b 0 (nI i).toNatClampNeg = nI y := by rw [cl, b0, hf]; rfl
            refine And.intro (fun h => ?_) (fun _ => ?_)
            · have hh := (encO_n (o := some y) (fun z hz => by cases hz; exact y16)).mp (by rw [← h, by1]; rfl)
              cases hh
            refine And.intro hin ?_
            refine xcallV (G := G) g3 pS (agr4 (nI_1 i) (show nI sh ||| b 0 (nI i).toNatClampNeg = nI (sh ||| y) by rw [by1, fa_or]) (show nI set ||| (1 : Int32) <<< (nI i &&& 31) = nI (set ||| 2 ^ i) by rw [eb, fa_or]) rfl (ih (d + 2) (i + 1) (sh ||| y) (set ||| 2 ^ i) ov F1 (by omega) (by omega) (Nat.or_lt_two_pow (n := 16) hsh y16) (bitS_lt hs) (up1 ho) k1)) ?_
            rw [xputS]
            exact second _ (skF_ok D h8 j (i + 1) (sh ||| y) (set ||| 2 ^ i) ov F1 (by omega) (bitS_lt hs) (up1 ho) k1) g2
        · rw [e0, nI_eq (by omega) (by omega)] at h; omega
      · rw [if_pos (by omega)] at g2
        exact xrv (G := G) g2 rfl rfl
/-- cheapest: the least found so far -/
def skC (D : LD) : Nat → Nat → Nat → Nat → Nat → Nat
  | 0, i, sh, co, m => if m ≤ co then m else if outB D i sh = true then m else co
  | j + 1, i, sh, co, m => if m ≤ co then m else if outB D i sh = true then m else
    onO (D.2.1 i) (onO (D.1 i) (skC D j (i + 1) sh co m) (fun x => skC D j (i + 1) (sh ||| x) (co + D.2.2.1 i) (skC D j (i + 1) sh co m)))
      (fun x => skC D j (i + 1) (sh ||| x) (co + D.2.2.1 i) (onO (D.1 i) (skC D j (i + 1) sh co m) (fun x => skC D j (i + 1) (sh ||| x) (co + D.2.2.1 i) (skC D j (i + 1) sh co m))))
theorem skC_le (D : LD) : ∀ j i sh co m, skC D j i sh co m ≤ m := by
  intro j
  induction j with
  | zero =>
    intro i sh co m
    unfold skC
    split
    · exact Nat.le_refl _
    · split <;> omega
  | succ j ih =>
    intro i sh co m
    unfold skC
    split
    · exact Nat.le_refl _
    · split
      · exact Nat.le_refl _
      · have k2 : onO (D.1 i) (skC D j (i + 1) sh co m) (fun x => skC D j (i + 1) (sh ||| x) (co + D.2.2.1 i) (skC D j (i + 1) sh co m)) ≤ m := by
          cases D.1 i with
          | none => exact ih _ _ _ _
          | some x => exact Nat.le_trans (ih _ _ _ _) (ih _ _ _ _)
        cases D.2.1 i with
        | none => exact k2
        | some x => exact Nat.le_trans (ih _ _ _ _) k2
theorem t_seekCheapest {D : LD} {n : Nat} {b : Nat → Nat → Int32} {t : Nat → Int32} (hl : ldS D n b t) : ∀ j e i sh co m, j + 2 ≤ e → i + j = n → sh < 65536 → co ≤ 99 * i → m ≤ 1000 → xCt xMs e nX3_seekCheapest [.ref 0, .int (nI i), .int (nI sh), .int (nI co)] (eS b (sU t 2 (nI m))) (xRetV (eS b (sU t 2 (nI (skC D j i sh co m))))) := by
  have h8 := hl.1
  intro j
  induction j with
  | zero =>
    intro e i sh co m he hij hsh hco hm
    obtain ⟨d, rfl⟩ : ∃ d, e = d + 2 := ⟨e - 2, by omega⟩
    have e0 : sU t 2 (nI m) 0 = nI n := hl.2.2.1
    have e3 : sU t 2 (nI m) 2 = nI m := rfl
    refine xV (M := mX3_seekCheapest) rfl rfl rfl rfl rfl pX3_seekCheapest rfl (fun G g1 g2 g3 => ?_)
    unfold skC at g2
    refine xwp_go g1 [] 100 _ _ _ _ ?_
    refine And.intro (fun h => absurd h (nI_pos (by omega))) (fun _ => ?_)
    refine And.intro (fun h => ?_) (fun _ => ?_)
    · rw [e0] at h; exact absurd h (nI_nlt (by omega) (by omega))
    refine And.intro (fun h => ?_) (fun h => ?_) <;> rw [e3, nI_leI (by omega) (by omega)] at h
    · rw [if_pos h] at g2
      exact xrv (G := G) g2 rfl rfl
    rw [if_neg h] at g2
    refine xcallR (G := G) g3 pS (t_out d (show ldS D n b (sU t 2 (nI m)) from hl) (i := i) (by omega) hsh) ?_
    cases hO : outB D i sh with
    | true =>
      rw [if_pos hO] at g2
      refine xwp_go g1 [] 100 _ _ _ _ ?_
      exact And.intro (fun h => absurd h (by decide)) (fun _ => xrv (G := G) g2 rfl rfl)
    | false =>
      rw [if_neg (by rw [hO]; decide)] at g2
      refine xwp_go g1 [] 100 _ _ _ _ ?_
      refine And.intro (fun _ => ?_) (fun h => absurd rfl h)
      refine And.intro (fun h => ?_) (fun _ => ?_)
      · rw [e0, nI_eq (by omega) (by omega)] at h; omega
      exact xrv (G := G) g2 rfl rfl
  | succ j ih =>
    intro e i sh co m he hij hsh hco hm
    obtain ⟨d, rfl⟩ : ∃ d, e = d + 2 := ⟨e - 2, by omega⟩
    obtain ⟨b0, b1, b2, x0, x1, x2⟩ := hl.2.2.2.2.1 i (by omega)
    have cl : (nI i).toNatClampNeg = i := nI_clamp (by omega)
    have hin : vp_in (nI i) 8 := vp_in_nI (by omega) (by decide)
    have ec : nI co + b 2 (nI i).toNatClampNeg = nI (co + D.2.2.1 i) := by rw [cl, b2, nI_add]
    have e0 : sU t 2 (nI m) 0 = nI n := hl.2.2.1
    have e3 : sU t 2 (nI m) 2 = nI m := rfl
    refine xV (M := mX3_seekCheapest) rfl rfl rfl rfl rfl pX3_seekCheapest rfl (fun G g1 g2 g3 => ?_)
    unfold skC at g2
    refine xwp_go g1 [] 100 _ _ _ _ ?_
    refine And.intro (fun h => absurd h (nI_pos (by omega))) (fun _ => ?_)
    refine And.intro (fun h => ?_) (fun _ => ?_)
    · rw [e0] at h; exact absurd h (nI_nlt (by omega) (by omega))
    refine And.intro (fun h => ?_) (fun h => ?_) <;> rw [e3, nI_leI (by omega) (by omega)] at h
    · rw [if_pos h] at g2
      exact xrv (G := G) g2 rfl rfl
    rw [if_neg h] at g2
    refine xcallR (G := G) g3 pS (t_out d (show ldS D n b (sU t 2 (nI m)) from hl) (i := i) (by omega) hsh) ?_
    cases hO : outB D i sh with
    | true =>
      rw [if_pos hO] at g2
      refine xwp_go g1 [] 100 _ _ _ _ ?_
      exact And.intro (fun h => absurd h (by decide)) (fun _ => xrv (G := G) g2 rfl rfl)
    | false =>
      rw [if_neg (by rw [hO]; decide)] at g2
      refine xwp_go g1 [] 100 _ _ _ _ ?_
      refine And.intro (fun _ => ?_) (fun h => absurd rfl h)
      refine And.intro (fun _ => ?_) (fun h => ?_)
      · have k1 := Nat.le_trans (skC_le D j (i + 1) sh co m) hm
        refine xcallV (G := G) g3 pS (agr3 (nI_1 i) rfl rfl (ih (d + 1) (i + 1) sh co m (by omega) (by omega) hsh (by omega) hm)) ?_
        rw [xputS]
        generalize skC D j (i + 1) sh co m = m1 at g2 k1
        have second : ∀ m2, m2 ≤ 1000 → xG2 mX3_seekCheapest.2.2.2.2.1 mX3_seekCheapest.2.2.2.1 (xRetV (eS b (sU t 2 (nI (onO (D.2.1 i) m2 (fun x => skC D j (i + 1) (sh ||| x) (co + D.2.2.1 i) m2)))))) G → G 86 [some (.ref 0), some (.int (nI i)), some (.int (nI sh)), some (.int (nI co))] [] (eS b (sU t 2 (nI m2))) := by
          intro m2 k2 g2
          refine xwp_go g1 [] 100 _ _ _ _ ?_
          refine And.intro hin ?_
          cases hg : D.2.1 i with
          | none =>
            rw [hg] at g2
            refine And.intro (fun _ => xrv (G := G) g2 rfl rfl) (fun h => absurd (by rw [cl, b1, hg]; rfl) h)
          | some y =>
            rw [hg] at g2
            have y16 := x1 y hg
            have by1 : b 1 (nI i).toNatClampNeg = nI y := by rw [cl, b1, hg]; rfl
            refine And.intro (fun h => ?_) (fun _ => ?_)
            · have hh := (encO_n (o := some y) (fun z hz => by cases hz; exact y16)).mp (by rw [← h, by1]; rfl)
              cases hh
            refine And.intro hin (And.intro hin ?_)
            refine xcallV (G := G) g3 pS (agr3 (nI_1 i) (show nI sh ||| b 1 (nI i).toNatClampNeg = nI (sh ||| y) by rw [by1, fa_or]) ec (ih (d + 1) (i + 1) (sh ||| y) (co + D.2.2.1 i) m2 (by omega) (by omega) (Nat.or_lt_two_pow (n := 16) hsh y16) (by omega) k2)) ?_
            rw [xputS]
            refine xwp_go g1 [] 100 _ _ _ _ ?_
            exact xrv (G := G) g2 rfl rfl
        refine xwp_go g1 [86] 100 _ _ _ _ ?_
        refine And.intro hin ?_
        cases hf : D.1 i with
        | none =>
          rw [hf] at g2
          refine And.intro (fun _ => second m1 k1 g2) (fun h => absurd (by rw [cl, b0, hf]; rfl) h)
        | some y =>
          rw [hf] at g2
          have y16 := x0 y hf
          have by1 : b 0 (nI i).toNatClampNeg = nI y := by rw [cl, b0, hf]; rfl
          refine And.intro (fun h => ?_) (fun _ => ?_)
          · have hh := (encO_n (o := some y) (fun z hz => by cases hz; exact y16)).mp (by rw [← h, by1]; rfl)
            cases hh
          refine And.intro hin (And.intro hin ?_)
          refine xcallV (G := G) g3 pS (agr3 (nI_1 i) (show nI sh ||| b 0 (nI i).toNatClampNeg = nI (sh ||| y) by rw [by1, fa_or]) ec (ih (d + 1) (i + 1) (sh ||| y) (co + D.2.2.1 i) m1 (by omega) (by omega) (Nat.or_lt_two_pow (n := 16) hsh y16) (by omega) k1)) ?_
          rw [xputS]
          exact second _ (Nat.le_trans (skC_le D j (i + 1) (sh ||| y) (co + D.2.2.1 i) m1) k1) g2
      · rw [e0, nI_eq (by omega) (by omega)] at h; omega
