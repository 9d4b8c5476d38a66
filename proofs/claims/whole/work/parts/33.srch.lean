/-! the class's Search: what it does, in numbers; its contracts -/
def encO : Option Nat → Int32
  | none => -1
  | some x => nI x
def dk : Option Nat → Nat
  | none => 0
  | some x => x
/-- straight, turned, prices, reach, target -/
abbrev LD : Type := (Nat → Option Nat) × (Nat → Option Nat) × (Nat → Nat) × (Nat → Nat) × Nat
def eS (b : Nat → Nat → Int32) (t : Nat → Int32) : xH := [.inr (2, [.ref 1, .ref 2, .ref 3, .ref 4, .int (t 0), .int (t 1), .int (t 2), .int (t 3), .int (t 4), .int (t 5), .int (t 6)]), .inl (8, b 0), .inl (8, b 1), .inl (8, b 2), .inl (9, b 3)]
abbrev pS : List Nat := [0, 1, 2, 3, 4]
theorem xputS (b b' : Nat → Nat → Int32) (t t' : Nat → Int32) : xput pS pS (eS b' t') (eS b t) = eS b' t' := rfl
def ldS (D : LD) (n : Nat) (b : Nat → Nat → Int32) (t : Nat → Int32) : Prop := n ≤ 8 ∧ D.2.2.2.2 < 65536 ∧ t 0 = nI n ∧ t 1 = nI D.2.2.2.2 ∧ (∀ i, i < n → b 0 i = encO (D.1 i) ∧ b 1 i = encO (D.2.1 i) ∧ b 2 i = nI (D.2.2.1 i) ∧ (∀ x, D.1 i = some x → x < 65536) ∧ (∀ x, D.2.1 i = some x → x < 65536) ∧ D.2.2.1 i ≤ 99) ∧ ∀ i, i ≤ n → b 3 i = nI (D.2.2.2.1 i) ∧ D.2.2.2.1 i < 65536
def outB (D : LD) (i sh : Nat) : Bool := !decide (D.2.2.2.2 ^^^ (D.2.2.2.2 &&& (sh ||| D.2.2.2.1 i)) = 0)
theorem encO_n {o : Option Nat} (h : ∀ x, o = some x → x < 65536) : encO o = -1 ↔ o = none := by
  cases o with
  | none => exact ⟨fun _ => rfl, fun _ => rfl⟩
  | some x =>
    have := h x rfl
    constructor
    · intro e
      have h1 := nI_pos' (n := x) (by omega)
      rw [show nI x = -1 from e] at h1
      exact absurd h1 (by decide)
    · intro e; cases e
theorem t_dark (d : Nat) (ws : xH) {o : Option Nat} (h : ∀ x, o = some x → x < 65536) {v : Int32} (hv : v = encO o) : xCt xMs (d + 1) nX3_dark [.int v] ws (xRet (nI (dk o)) ws) := by
  refine xS (M := mX3_dark) rfl rfl pX3_dark rfl (fun G g1 g2 g3 => ?_)
  refine xwp_go g1 [] 100 _ _ _ _ ?_
  refine And.intro (fun h1 => ?_) (fun h1 => ?_) <;> rw [hv, encO_n h] at h1
  · refine xri (G := G) g2 rfl ?_ rfl
    rw [hv]
    cases o with
    | none => exact absurd rfl h1
    | some x => rfl
  · exact xri (G := G) g2 rfl (by rw [h1]; rfl) rfl
def layO (x al : Nat) : Option Nat := if x ^^^ (x &&& al) = 0 then some x else none
theorem layO_lt {x al : Nat} (h : x < 65536) : ∀ y, layO x al = some y → y < 65536 := by
  intro y hy
  unfold layO at hy
  split at hy
  · cases hy; exact h
  · cases hy
theorem t_usable (d : Nat) (ws : xH) {x al : Nat} (hx : x < 65536) (ha : al < 65536) : xCt xMs (d + 1) nX3_usable [.int (nI x), .int (nI al)] ws (xRet (encO (layO x al)) ws) := by
  have hlt : x ^^^ (x &&& al) < 65536 := Nat.xor_lt_two_pow (n := 16) hx (Nat.lt_of_le_of_lt Nat.and_le_left hx)
  refine xS (M := mX3_usable) rfl rfl pX3_usable rfl (fun G g1 g2 g3 => ?_)
  unfold layO at g2
  refine xwp_go g1 [] 100 _ _ _ _ ?_
  refine And.intro (fun h1 => ?_) (fun h1 => ?_) <;> rw [nI_andn, show (0 : Int32) = nI 0 from rfl, nI_eq (by omega) (by decide)] at h1
  · rw [if_neg h1] at g2
    exact xri (G := G) g2 rfl rfl rfl
  · rw [if_pos h1] at g2
    exact xri (G := G) g2 rfl rfl rfl
theorem t_out (d : Nat) {D : LD} {n : Nat} {b : Nat → Nat → Int32} {t : Nat → Int32} (hl : ldS D n b t) {i sh : Nat} (hi : i ≤ n) (hs : sh < 65536) : xCt xMs (d + 1) nX3_isOutOfReach [.ref 0, .int (nI i), .int (nI sh)] (eS b t) (xRet (bI (outB D i sh)) (eS b t)) := by
  obtain ⟨h8, hp, h0, h1, hb, hR⟩ := hl
  have hlt : D.2.2.2.2 ^^^ (D.2.2.2.2 &&& (sh ||| D.2.2.2.1 i)) < 65536 := Nat.xor_lt_two_pow (n := 16) hp (Nat.lt_of_le_of_lt Nat.and_le_left hp)
  have e : t 1 &&& ((nI sh ||| b 3 (nI i).toNatClampNeg) ^^^ (-1)) = nI (D.2.2.2.2 ^^^ (D.2.2.2.2 &&& (sh ||| D.2.2.2.1 i))) := by
    rw [nI_clamp (by omega), h1, (hR i hi).1, fa_or, nI_andn]
  refine xV (M := mX3_isOutOfReach) rfl rfl rfl rfl rfl pX3_isOutOfReach rfl (fun G g1 g2 g3 => ?_)
  unfold outB at g2
  refine xwp_go g1 [] 100 _ _ _ _ ?_
  refine And.intro (vp_in_nI (by omega) (by decide)) ?_
  refine And.intro (fun h => ?_) (fun h => ?_) <;> rw [e, show (0 : Int32) = nI 0 from rfl, nI_eq (by omega) (by decide)] at h
  · exact xrz (G := G) g2 rfl (Or.inl rfl) (by rw [decide_eq_true h]; rfl) rfl
  · exact xrz (G := G) g2 rfl (Or.inr rfl) (by rw [decide_eq_false h]; rfl) rfl
/-- fewest: how many, the set, turned over, ways -/
abbrev FF : Type := Nat × Nat × Nat × Nat
def noteF (F : FF) (set ov : Nat) : FF := (pop set, if pop set < F.1 ∨ set < F.2.1 ∨ (set = F.2.1 ∧ ov < F.2.2.1) then set else F.2.1, if pop set < F.1 ∨ set < F.2.1 ∨ (set = F.2.1 ∧ ov < F.2.2.1) then ov else F.2.2.1, if pop set < F.1 then 1 else F.2.2.2 + 1)
def onO {α : Type} (o : Option Nat) (F : α) (k : Nat → α) : α := match o with
  | none => F
  | some x => k x
def skF (D : LD) : Nat → Nat → Nat → Nat → Nat → FF → FF
  | 0, i, sh, set, ov, F => if outB D i sh = true then F else if F.1 < pop set then F else noteF F set ov
  | j + 1, i, sh, set, ov, F => if outB D i sh = true then F else if F.1 < pop set then F else
    onO (D.2.1 i) (onO (D.1 i) (skF D j (i + 1) sh set ov F) (fun x => skF D j (i + 1) (sh ||| x) (set ||| 2 ^ i) ov (skF D j (i + 1) sh set ov F)))
      (fun x => skF D j (i + 1) (sh ||| x) (set ||| 2 ^ i) (ov ||| 2 ^ i) (onO (D.1 i) (skF D j (i + 1) sh set ov F) (fun x => skF D j (i + 1) (sh ||| x) (set ||| 2 ^ i) ov (skF D j (i + 1) sh set ov F))))
def okF (F : FF) : Prop := F.1 ≤ 16 ∧ F.2.1 < 256 ∧ F.2.2.1 < 256
def tF (t : Nat → Int32) (F : FF) : Nat → Int32 := sU (sU (sU (sU t 3 (nI F.1)) 4 (nI F.2.1)) 5 (nI F.2.2.1)) 6 (nI F.2.2.2)
theorem noteF_ok {F : FF} (h : okF F) {set ov : Nat} (hs : set < 256) (ho : ov < 256) : okF (noteF F set ov) := by
  obtain ⟨h1, h2, h3⟩ := h
  refine ⟨pop_le _, ?_, ?_⟩
  · show (if _ then _ else _) < 256
    split <;> omega
  · show (if _ then _ else _) < 256
    split <;> omega
theorem bitS_lt {m i : Nat} (h : m < 2 ^ i) : m ||| 2 ^ i < 2 ^ (i + 1) := Nat.or_lt_two_pow (Nat.lt_trans h (Nat.pow_lt_pow_right (by decide) (Nat.lt_succ_self i))) (Nat.pow_lt_pow_right (by decide) (Nat.lt_succ_self i))
theorem up1 {m i : Nat} (h : m < 2 ^ i) : m < 2 ^ (i + 1) := Nat.lt_trans h (Nat.pow_lt_pow_right (by decide) (Nat.lt_succ_self i))
theorem lt_256 {m i : Nat} (h : m < 2 ^ i) (hi : i ≤ 8) : m < 256 := Nat.lt_of_lt_of_le h (Nat.pow_le_pow_right (n := 2) (by decide) hi)
theorem skF_ok (D : LD) {n : Nat} (hn : n ≤ 8) : ∀ j i sh set ov F, i + j = n → set < 2 ^ i → ov < 2 ^ i → okF F → okF (skF D j i sh set ov F) := by
  intro j
  induction j with
  | zero =>
    intro i sh set ov F hij hs ho hF
    unfold skF
    split
    · exact hF
    · split
      · exact hF
      · exact noteF_ok hF (lt_256 hs (by omega)) (lt_256 ho (by omega))
  | succ j ih =>
    intro i sh set ov F hij hs ho hF
    unfold skF
    split
    · exact hF
    · split
      · exact hF
      · have k1 := ih (i + 1) sh set ov F (by omega) (up1 hs) (up1 ho) hF
        have k2 : okF (onO (D.1 i) (skF D j (i + 1) sh set ov F) (fun x => skF D j (i + 1) (sh ||| x) (set ||| 2 ^ i) ov (skF D j (i + 1) sh set ov F))) := by
          cases D.1 i with
          | none => exact k1
          | some x => exact ih _ _ _ _ _ (by omega) (bitS_lt hs) (up1 ho) k1
        cases D.2.1 i with
        | none => exact k2
        | some x => exact ih _ _ _ _ _ (by omega) (bitS_lt hs) (bitS_lt ho) k2
theorem t_note (d : Nat) {b : Nat → Nat → Int32} {t : Nat → Int32} {F : FF} (hF : okF F) {set ov : Nat} (hs : set < 256) (ho : ov < 256) : xCt xMs (d + 2) nX3_noteFewest [.ref 0, .int (nI set), .int (nI ov)] (eS b (tF t F)) (xRetV (eS b (tF t (noteF F set ov)))) := by
  obtain ⟨h1, h2, h3⟩ := hF
  have hp := pop_le set
  have e3 : tF t F 3 = nI F.1 := rfl
  have e4 : tF t F 4 = nI F.2.1 := rfl
  have e5 : tF t F 5 = nI F.2.2.1 := rfl
  have e6 : tF t F 6 + 1 = nI (F.2.2.2 + 1) := nI_1 _
  refine xV (M := mX3_noteFewest) rfl rfl rfl rfl rfl pX3_noteFewest rfl (fun G g1 g2 g3 => ?_)
  unfold noteF at g2
  refine xwp_go g1 [] 100 _ _ _ _ ?_
  refine xcallR (G := G) g3 [] (c_bitCount d [] (p := set) (by omega)) ?_
  refine xwp_go g1 [] 100 _ _ _ _ ?_
  refine And.intro (fun h => ?_) (fun h => ?_) <;> rw [e3, nI_leI (by omega) (by omega)] at h
  · rw [if_neg (show ¬ pop set < F.1 by omega)] at g2
    refine And.intro (fun _ => ?_) (fun hh => absurd rfl hh)
    refine And.intro (fun hh => absurd rfl hh) (fun _ => ?_)
    refine And.intro (fun h4 => ?_) (fun h4 => ?_)
    · have h4 : nI set < nI F.2.1 := h4
      rw [nI_ltI (by omega) (by omega)] at h4
      rw [if_pos (Or.inr (Or.inl h4)), if_pos (Or.inr (Or.inl h4))] at g2
      exact xrv (G := G) g2 rfl (by rw [e6]; rfl)
    · have h4 : ¬ nI set < nI F.2.1 := h4
      rw [nI_ltI (by omega) (by omega)] at h4
      refine And.intro (fun h5 => ?_) (fun h5 => ?_)
      · have h5 : ¬ nI set = nI F.2.1 := h5
        rw [nI_eq (by omega) (by omega)] at h5
        rw [if_neg (by omega), if_neg (by omega)] at g2
        exact xrv (G := G) g2 rfl (by rw [e6]; rfl)
      · have h5 : nI set = nI F.2.1 := h5
        rw [nI_eq (by omega) (by omega)] at h5
        refine And.intro (fun h6 => ?_) (fun h6 => ?_)
        · have h6 : nI F.2.2.1 ≤ nI ov := h6
          rw [nI_leI (by omega) (by omega)] at h6
          rw [if_neg (by omega), if_neg (by omega)] at g2
          exact xrv (G := G) g2 rfl (by rw [e6]; rfl)
        · have h6 : ¬ nI F.2.2.1 ≤ nI ov := h6
          rw [nI_leI (by omega) (by omega)] at h6
          rw [if_pos (by omega), if_pos (by omega)] at g2
          exact xrv (G := G) g2 rfl (by rw [e6]; rfl)
  · have h : pop set < F.1 := by omega
    rw [if_pos (Or.inl h), if_pos (Or.inl h), if_pos h] at g2
    refine And.intro (fun hh => absurd hh (by decide)) (fun _ => ?_)
    refine And.intro (fun _ => ?_) (fun hh => absurd hh (by decide))
    exact xrv (G := G) g2 rfl rfl
