/-! the class's Search: near, isShown, load -/
def atN (D : LD) (i sh : Nat) : Nat := pop ((sh ^^^ (sh &&& D.2.2.2.2)) ||| (D.2.2.2.2 ^^^ (D.2.2.2.2 &&& (sh ||| D.2.2.2.1 i))))
def skN (D : LD) : Nat → Nat → Nat → Nat → Nat
  | 0, i, sh, m => if m ≤ atN D i sh then m else atN D i sh
  | j + 1, i, sh, m => if m ≤ atN D i sh then m else skN D j (i + 1) (sh ||| dk (D.2.1 i)) (skN D j (i + 1) (sh ||| dk (D.1 i)) (skN D j (i + 1) sh m))
theorem skN_le (D : LD) : ∀ j i sh m, skN D j i sh m ≤ m := by
  intro j
  induction j with
  | zero =>
    intro i sh m
    unfold skN
    split <;> omega
  | succ j ih =>
    intro i sh m
    unfold skN
    split
    · exact Nat.le_refl _
    · exact Nat.le_trans (ih _ _ _) (Nat.le_trans (ih _ _ _) (ih _ _ _))
theorem dk_lt {o : Option Nat} (h : ∀ x, o = some x → x < 65536) : dk o < 65536 := by
  cases o with
  | none => exact (by decide : 0 < 65536)
  | some x => exact h x rfl
theorem t_seekNear {D : LD} {n : Nat} {b : Nat → Nat → Int32} {t : Nat → Int32} (hl : ldS D n b t) : ∀ j e i sh m, j + 2 ≤ e → i + j = n → sh < 65536 → m ≤ 17 → xCt xMs e nX3_seekNear [.ref 0, .int (nI i), .int (nI sh)] (eS b (sU t 2 (nI m))) (xRetV (eS b (sU t 2 (nI (skN D j i sh m))))) := by
  have h8 := hl.1
  intro j
  induction j with
  | zero =>
    intro e i sh m he hij hsh hm
    obtain ⟨d, rfl⟩ : ∃ d, e = d + 2 := ⟨e - 2, by omega⟩
    have e0 : sU t 2 (nI m) 0 = nI n := hl.2.2.1
    have e1 : sU t 2 (nI m) 1 = nI D.2.2.2.2 := hl.2.2.2.1
    have e3 : sU t 2 (nI m) 2 = nI m := rfl
    obtain ⟨r1, r2⟩ := hl.2.2.2.2.2 i (by omega)
    have hlt : (sh ^^^ (sh &&& D.2.2.2.2)) ||| (D.2.2.2.2 ^^^ (D.2.2.2.2 &&& (sh ||| D.2.2.2.1 i))) < 65536 := Nat.or_lt_two_pow (n := 16) (Nat.xor_lt_two_pow (n := 16) hsh (Nat.lt_of_le_of_lt Nat.and_le_left hsh)) (Nat.xor_lt_two_pow (n := 16) hl.2.1 (Nat.lt_of_le_of_lt Nat.and_le_left hl.2.1))
    have ea : (nI sh &&& (sU t 2 (nI m) 1 ^^^ (-1))) ||| (sU t 2 (nI m) 1 &&& ((nI sh ||| b 3 (nI i).toNatClampNeg) ^^^ (-1))) = nI ((sh ^^^ (sh &&& D.2.2.2.2)) ||| (D.2.2.2.2 ^^^ (D.2.2.2.2 &&& (sh ||| D.2.2.2.1 i)))) := by
      rw [e1, nI_clamp (by omega), r1, fa_or, nI_andn, nI_andn, fa_or]
    have hpl := pop_le ((sh ^^^ (sh &&& D.2.2.2.2)) ||| (D.2.2.2.2 ^^^ (D.2.2.2.2 &&& (sh ||| D.2.2.2.1 i))))
    refine xV (M := mX3_seekNear) rfl rfl rfl rfl rfl pX3_seekNear rfl (fun G g1 g2 g3 => ?_)
    unfold skN atN at g2
    refine xwp_go g1 [] 100 _ _ _ _ ?_
    refine And.intro (fun h => absurd h (nI_pos (by omega))) (fun _ => ?_)
    refine And.intro (fun _ => ?_) (fun h => ?_)
    · refine And.intro (vp_in_nI (by omega) (by decide)) ?_
      refine xcallR (G := G) g3 [] (ag1 ea (c_bitCount d [] hlt)) ?_
      generalize pop ((sh ^^^ (sh &&& D.2.2.2.2)) ||| (D.2.2.2.2 ^^^ (D.2.2.2.2 &&& (sh ||| D.2.2.2.1 i)))) = at' at g2 hpl
      refine xwp_go g1 [] 100 _ _ _ _ ?_
      refine And.intro (fun h => ?_) (fun h => ?_) <;> rw [e3, nI_ltI (by omega) (by omega)] at h
      · rw [if_neg (by omega)] at g2
        refine And.intro (fun h => ?_) (fun _ => ?_)
        · rw [e0, nI_eq (by omega) (by omega)] at h; omega
        exact xrv (G := G) g2 rfl rfl
      · rw [if_pos (by omega)] at g2
        exact xrv (G := G) g2 rfl rfl
    · rw [e0] at h; exact absurd (nI_le (by omega) (by omega)) h
  | succ j ih =>
    intro e i sh m he hij hsh hm
    obtain ⟨d, rfl⟩ : ∃ d, e = d + 2 := ⟨e - 2, by omega⟩
    have e0 : sU t 2 (nI m) 0 = nI n := hl.2.2.1
    have e1 : sU t 2 (nI m) 1 = nI D.2.2.2.2 := hl.2.2.2.1
    have e3 : sU t 2 (nI m) 2 = nI m := rfl
    obtain ⟨r1, r2⟩ := hl.2.2.2.2.2 i (by omega)
    obtain ⟨b0, b1, -, x0, x1, -⟩ := hl.2.2.2.2.1 i (by omega)
    have cl : (nI i).toNatClampNeg = i := nI_clamp (by omega)
    have hin : vp_in (nI i) 8 := vp_in_nI (by omega) (by decide)
    have hlt : (sh ^^^ (sh &&& D.2.2.2.2)) ||| (D.2.2.2.2 ^^^ (D.2.2.2.2 &&& (sh ||| D.2.2.2.1 i))) < 65536 := Nat.or_lt_two_pow (n := 16) (Nat.xor_lt_two_pow (n := 16) hsh (Nat.lt_of_le_of_lt Nat.and_le_left hsh)) (Nat.xor_lt_two_pow (n := 16) hl.2.1 (Nat.lt_of_le_of_lt Nat.and_le_left hl.2.1))
    have ea : (nI sh &&& (sU t 2 (nI m) 1 ^^^ (-1))) ||| (sU t 2 (nI m) 1 &&& ((nI sh ||| b 3 (nI i).toNatClampNeg) ^^^ (-1))) = nI ((sh ^^^ (sh &&& D.2.2.2.2)) ||| (D.2.2.2.2 ^^^ (D.2.2.2.2 &&& (sh ||| D.2.2.2.1 i)))) := by
      rw [e1, nI_clamp (by omega), r1, fa_or, nI_andn, nI_andn, fa_or]
    have hpl := pop_le ((sh ^^^ (sh &&& D.2.2.2.2)) ||| (D.2.2.2.2 ^^^ (D.2.2.2.2 &&& (sh ||| D.2.2.2.1 i))))
    refine xV (M := mX3_seekNear) rfl rfl rfl rfl rfl pX3_seekNear rfl (fun G g1 g2 g3 => ?_)
    unfold skN atN at g2
    refine xwp_go g1 [] 100 _ _ _ _ ?_
    refine And.intro (fun h => absurd h (nI_pos (by omega))) (fun _ => ?_)
    refine And.intro (fun _ => ?_) (fun h => ?_)
    · refine And.intro (vp_in_nI (by omega) (by decide)) ?_
      refine xcallR (G := G) g3 [] (ag1 ea (c_bitCount d [] hlt)) ?_
      generalize pop ((sh ^^^ (sh &&& D.2.2.2.2)) ||| (D.2.2.2.2 ^^^ (D.2.2.2.2 &&& (sh ||| D.2.2.2.1 i)))) = at' at g2 hpl
      refine xwp_go g1 [] 100 _ _ _ _ ?_
      refine And.intro (fun h => ?_) (fun h => ?_) <;> rw [e3, nI_ltI (by omega) (by omega)] at h
      · rw [if_neg (by omega)] at g2
        refine And.intro (fun _ => ?_) (fun h => ?_)
        · have k1 := Nat.le_trans (skN_le D j (i + 1) sh m) hm
          refine xcallV (G := G) g3 pS (agr2 (nI_1 i) rfl (ih (d + 1) (i + 1) sh m (by omega) (by omega) hsh hm)) ?_
          rw [xputS]
          generalize skN D j (i + 1) sh m = m1 at g2 k1
          refine xwp_go g1 [] 100 _ _ _ _ ?_
          refine And.intro hin ?_
          refine xcallR (G := G) g3 [] (t_dark d [] (v := b 0 (nI i).toNatClampNeg) x0 (by rw [cl]; exact b0)) ?_
          refine xwp_go g1 [] 100 _ _ _ _ ?_
          have k2 := Nat.le_trans (skN_le D j (i + 1) (sh ||| dk (D.1 i)) m1) k1
          refine xcallV (G := G) g3 pS (agr2 (nI_1 i) (fa_or _ _) (ih (d + 1) (i + 1) (sh ||| dk (D.1 i)) m1 (by omega) (by omega) (Nat.or_lt_two_pow (n := 16) hsh (dk_lt x0)) k1)) ?_
          rw [xputS]
          generalize skN D j (i + 1) (sh ||| dk (D.1 i)) m1 = m2 at g2 k2
          refine xwp_go g1 [] 100 _ _ _ _ ?_
          refine And.intro hin ?_
          refine xcallR (G := G) g3 [] (t_dark d [] (v := b 1 (nI i).toNatClampNeg) x1 (by rw [cl]; exact b1)) ?_
          refine xwp_go g1 [] 100 _ _ _ _ ?_
          refine xcallV (G := G) g3 pS (agr2 (nI_1 i) (fa_or _ _) (ih (d + 1) (i + 1) (sh ||| dk (D.2.1 i)) m2 (by omega) (by omega) (Nat.or_lt_two_pow (n := 16) hsh (dk_lt x1)) k2)) ?_
          rw [xputS]
          refine xwp_go g1 [] 100 _ _ _ _ ?_
          exact xrv (G := G) g2 rfl rfl
        · rw [e0, nI_eq (by omega) (by omega)] at h; omega
      · rw [if_pos (by omega)] at g2
        exact xrv (G := G) g2 rfl rfl
    · rw [e0] at h; exact absurd (nI_le (by omega) (by omega)) h
def shB (D : LD) : Nat → Nat → Nat → Bool
  | 0, i, sh => !outB D i sh
  | j + 1, i, sh => if outB D i sh = true then false else if D.1 i = none ∧ D.2.1 i = none then shB D j (i + 1) sh else
    onO (D.1 i) false (fun x => shB D j (i + 1) (sh ||| x)) || onO (D.2.1 i) false (fun x => shB D j (i + 1) (sh ||| x))
theorem t_isShown {D : LD} {n : Nat} {b : Nat → Nat → Int32} {t : Nat → Int32} (hl : ldS D n b t) : ∀ j e i sh, j + 2 ≤ e → i + j = n → sh < 65536 → xCt xMs e nX3_isShown [.ref 0, .int (nI i), .int (nI sh)] (eS b t) (xRet (bI (shB D j i sh)) (eS b t)) := by
  have h8 := hl.1
  have e0 : t 0 = nI n := hl.2.2.1
  intro j
  induction j with
  | zero =>
    intro e i sh he hij hsh
    obtain ⟨d, rfl⟩ : ∃ d, e = d + 2 := ⟨e - 2, by omega⟩
    refine xV (M := mX3_isShown) rfl rfl rfl rfl rfl pX3_isShown rfl (fun G g1 g2 g3 => ?_)
    unfold shB at g2
    refine xwp_go g1 [] 100 _ _ _ _ ?_
    refine And.intro (fun h => absurd h (nI_pos (by omega))) (fun _ => ?_)
    refine And.intro (fun h => ?_) (fun _ => ?_)
    · rw [e0] at h; exact absurd h (nI_nlt (by omega) (by omega))
    refine xcallR (G := G) g3 pS (t_out d hl (i := i) (by omega) hsh) ?_
    refine xwp_go g1 [] 100 _ _ _ _ ?_
    refine And.intro (fun h => ?_) (fun h => ?_) <;> rw [bI_0] at h
    · rw [h] at g2
      refine And.intro (fun h => ?_) (fun _ => ?_)
      · rw [e0, nI_eq (by omega) (by omega)] at h; omega
      exact xrz (G := G) g2 rfl (Or.inr rfl) rfl rfl
    · rw [Bool.not_eq_false] at h
      rw [h] at g2
      exact xrz (G := G) g2 rfl (Or.inl rfl) rfl rfl
  | succ j ih =>
    intro e i sh he hij hsh
    obtain ⟨d, rfl⟩ : ∃ d, e = d + 2 := ⟨e - 2, by omega⟩
    obtain ⟨b0, b1, -, x0, x1, -⟩ := hl.2.2.2.2.1 i (by omega)
    have cl : (nI i).toNatClampNeg = i := nI_clamp (by omega)
    have hin : vp_in (nI i) 8 := vp_in_nI (by omega) (by decide)
    have q0 : b 0 (nI i).toNatClampNeg = -1 ↔ D.1 i = none := by rw [cl, b0]; exact encO_n x0
    have q1 : b 1 (nI i).toNatClampNeg = -1 ↔ D.2.1 i = none := by rw [cl, b1]; exact encO_n x1
    refine xV (M := mX3_isShown) rfl rfl rfl rfl rfl pX3_isShown rfl (fun G g1 g2 g3 => ?_)
    unfold shB at g2
    have third : xG2 mX3_isShown.2.2.2.2.1 mX3_isShown.2.2.2.1 (xRet (bI (onO (D.2.1 i) false (fun x => shB D j (i + 1) (sh ||| x)))) (eS b t)) G → G 92 [some (.ref 0), some (.int (nI i)), some (.int (nI sh))] [] (eS b t) := by
      intro g2
      refine xwp_go g1 [] 100 _ _ _ _ ?_
      refine And.intro hin ?_
      cases hg : D.2.1 i with
      | none =>
        rw [hg] at g2
        exact And.intro (fun _ => xrz (G := G) g2 rfl (Or.inl rfl) rfl rfl) (fun h => absurd (q1.mpr hg) h)
      | some y =>
        rw [hg] at g2
        refine And.intro (fun h => by rw [q1, hg] at h; cases h) (fun _ => ?_)
        refine And.intro hin ?_
        refine xcallR (G := G) g3 pS (agr2 (nI_1 i) (show nI sh ||| b 1 (nI i).toNatClampNeg = nI (sh ||| y) by rw [cl, b1, hg]; exact fa_or _ _) (ih (d + 1) (i + 1) (sh ||| y) (by omega) (by omega) (Nat.or_lt_two_pow (n := 16) hsh (x1 y hg)))) ?_
        refine xwp_go g1 [] 100 _ _ _ _ ?_
        refine And.intro (fun h => ?_) (fun h => ?_) <;> rw [bI_0] at h
        · exact xrz (G := G) g2 rfl (Or.inl rfl) (by show (0 : Int32) = bI (shB D j (i + 1) (sh ||| y)); rw [h]; rfl) rfl
        · rw [Bool.not_eq_false] at h
          exact xrz (G := G) g2 rfl (Or.inr rfl) (by show (1 : Int32) = bI (shB D j (i + 1) (sh ||| y)); rw [h]; rfl) rfl
    refine xwp_go g1 [] 100 _ _ _ _ ?_
    refine And.intro (fun h => absurd h (nI_pos (by omega))) (fun _ => ?_)
    refine And.intro (fun h => ?_) (fun _ => ?_)
    · rw [e0] at h; exact absurd h (nI_nlt (by omega) (by omega))
    refine xcallR (G := G) g3 pS (t_out d hl (i := i) (by omega) hsh) ?_
    have second : (¬ (D.1 i = none ∧ D.2.1 i = none)) → outB D i sh = false → G 62 [some (.ref 0), some (.int (nI i)), some (.int (nI sh))] [] (eS b t) := by
      intro hne hO
      rw [if_neg (by rw [hO]; decide), if_neg hne] at g2
      refine xwp_go g1 [92] 100 _ _ _ _ ?_
      refine And.intro hin ?_
      cases hf : D.1 i with
      | none =>
        rw [hf] at g2
        exact And.intro (fun _ => third g2) (fun h => absurd (q0.mpr hf) h)
      | some y =>
        rw [hf] at g2
        refine And.intro (fun h => by rw [q0, hf] at h; cases h) (fun _ => ?_)
        refine And.intro hin ?_
        refine xcallR (G := G) g3 pS (agr2 (nI_1 i) (show nI sh ||| b 0 (nI i).toNatClampNeg = nI (sh ||| y) by rw [cl, b0, hf]; exact fa_or _ _) (ih (d + 1) (i + 1) (sh ||| y) (by omega) (by omega) (Nat.or_lt_two_pow (n := 16) hsh (x0 y hf)))) ?_
        refine xwp_go g1 [92] 100 _ _ _ _ ?_
        refine And.intro (fun h => ?_) (fun h => ?_) <;> rw [bI_0] at h
        · refine third ?_
          have g2' : xG2 mX3_isShown.2.2.2.2.1 mX3_isShown.2.2.2.1 (xRet (bI (shB D j (i + 1) (sh ||| y) || onO (D.2.1 i) false (fun x => shB D j (i + 1) (sh ||| x)))) (eS b t)) G := g2
          rw [h, Bool.false_or] at g2'
          exact g2'
        · rw [Bool.not_eq_false] at h
          exact xrz (G := G) g2 rfl (Or.inr rfl) (by show (1 : Int32) = bI (shB D j (i + 1) (sh ||| y) || _); rw [h, Bool.true_or]; rfl) rfl
    refine xwp_go g1 [62] 100 _ _ _ _ ?_
    refine And.intro (fun h => ?_) (fun h => ?_) <;> rw [bI_0] at h
    · refine And.intro (fun _ => ?_) (fun h => ?_)
      · refine And.intro hin ?_
        refine And.intro (fun h1 => ?_) (fun h1 => ?_) <;> rw [q0] at h1
        · exact second (fun z => h1 z.1) h
        refine And.intro hin ?_
        refine And.intro (fun h2 => ?_) (fun h2 => ?_) <;> rw [q1] at h2
        · exact second (fun z => h2 z.2) h
        rw [if_neg (by rw [h]; decide), if_pos ⟨h1, h2⟩] at g2
        refine xcallR (G := G) g3 pS (agr2 (nI_1 i) rfl (ih (d + 1) (i + 1) sh (by omega) (by omega) hsh)) ?_
        refine xwp_go g1 [62] 100 _ _ _ _ ?_
        exact xrz (G := G) g2 rfl (bI_01 _) rfl rfl
      · rw [e0, nI_eq (by omega) (by omega)] at h; omega
    · rw [Bool.not_eq_false] at h
      rw [if_pos h] at g2
      exact xrz (G := G) g2 rfl (Or.inl rfl) rfl rfl
