/-! the reference: laying, projecting, refusing -/
theorem beq_ne {r k : Nat} (h : r ≠ k) : Nat.beq r k = false := by
  cases e : Nat.beq r k with
  | false => rfl
  | true => exact absurd (Nat.eq_of_beq_eq_true e) h
theorem aU_ne {a : Nat → Nat → Int32} {r k : Nat} {f : Nat → Int32} (h : r ≠ k) : aU a k f r = a r := by unfold aU; rw [beq_ne h]; rfl
theorem sU_ne {s : Nat → Int32} {r k : Nat} {v : Int32} (h : r ≠ k) : sU s k v r = s r := by unfold sU; rw [beq_ne h]; rfl
abbrev pM : List Nat := [0, 1, 2, 3, 4, 5, 6, 7, 8, 9, 10, 11, 12, 13, 14, 15, 16]
theorem xsubM (a : Nat → Nat → Int32) (s : Nat → Int32) : xsub pM (eM a s) (eM a s) := rfl
theorem xputM (a a' : Nat → Nat → Int32) (s s' : Nat → Int32) : xput pM pM (eM a' s') (eM a s) = eM a' s' := rfl
section XM
variable {tb : xT} {G : xK} {Cl : Nat → List Value → xH → xPost → Prop}
/-- a call of the reference's own methods, on its whole world: changes nothing; makes another world; anything -/
theorem xcM {pc x n c : Nat} {M : xM} {v0 : Int32} {j : Int64} {loc : xL} {st rest : List Value} {a : Nat → Nat → Int32} {s : Nat → Int32} {as : List Value} {r : Int32} (g3 : xG3 xMs tb Cl G) (hC : Cl c as (eM a s) (xRet r (eM a s))) (k : G (pc + 3) loc (.int r :: rest) (eM a s)) (hM : xnth xMs c = some M := by rfl) (hi : xlk tb pc = some ((match M.2.2.2.2.2.2 with | true => .invokestatic x | false => .invokevirtual x), n, [(v0, c)], j) := by rfl)
    (hst : st = (as.map (xrV pM)).reverse ++ rest := by rfl) (hr : Nat.ble (xcat rest) 8 = true := by rfl) : G pc loc st (eM a s) := xcallR g3 pM hC k hM hi hst hr rfl (xsubM a s)
theorem xcMW {pc x n c : Nat} {M : xM} {v0 : Int32} {j : Int64} {loc : xL} {st rest : List Value} {a a' : Nat → Nat → Int32} {s s' : Nat → Int32} {as : List Value} {r : Int32} (g3 : xG3 xMs tb Cl G) (hC : Cl c as (eM a s) (xRet r (eM a' s'))) (k : G (pc + 3) loc (.int r :: rest) (eM a' s')) (hM : xnth xMs c = some M := by rfl) (hi : xlk tb pc = some ((match M.2.2.2.2.2.2 with | true => .invokestatic x | false => .invokevirtual x), n, [(v0, c)], j) := by rfl)
    (hst : st = (as.map (xrV pM)).reverse ++ rest := by rfl) (hr : Nat.ble (xcat rest) 8 = true := by rfl) : G pc loc st (eM a s) := xcallW g3 pM hC (by rw [xputM]; exact k) hM hi hst hr rfl (xsubM a s)
theorem xcMP {pc x n c : Nat} {M : xM} {v0 : Int32} {j : Int64} {loc : xL} {st rest : List Value} {a : Nat → Nat → Int32} {s : Nat → Int32} {as : List Value} {PC : xPost} (g3 : xG3 xMs tb Cl G) (hC : Cl c as (eM a s) PC) (hPC : ∀ v w, PC v w → ∃ a' s', w = eM a' s') (k : ∀ v a' s', PC v (eM a' s') → G (pc + 3) loc (v.toList ++ rest) (eM a' s')) (hM : xnth xMs c = some M := by rfl) (hi : xlk tb pc = some ((match M.2.2.2.2.2.2 with | true => .invokestatic x | false => .invokevirtual x), n, [(v0, c)], j) := by rfl)
    (hst : st = (as.map (xrV pM)).reverse ++ rest := by rfl) (hr : Nat.ble (xcat rest) 8 = true := by rfl) : G pc loc st (eM a s) := by
  refine xcall g3 pM hC (fun v wc' hp _ => ?_) hM hi hst hr rfl (xsubM a s)
  obtain ⟨a', s', rfl⟩ := hPC v wc' hp
  rw [xputM]
  exact k v a' s' hp
end XM
theorem m_laid (d : Nat) {q : LQ} {a : Nat → Nat → Int32} {s : Nat → Int32} (hr : relS q a s) {set over : Nat} (hs : set < 2 ^ 31) (ho : over < 2 ^ 31) : xCt xMs (d + 3) nX6_laid [.ref 0, .int (nI set), .int (nI over)] (eM a s) (xRet (nI (laidQ q set over)) (eM a s)) := by
  have hr' := hr
  obtain ⟨hok, hA, hW, h0, h1, h2⟩ := hr
  have h6 := hok.1
  refine xV (M := mX6_laid) rfl rfl rfl rfl rfl pX6_laid rfl (fun G g1 g2 g3 => ?_)
  refine xwp_go g1 [5] 100 _ _ _ _ ?_
  refine up (k := q 6 0) (P := fun i => ∀ x y, x = nI i → y = nI (laidL q set over i) → G 5 [some (.ref 0), some (.int (nI set)), some (.int (nI over)), some (.int y), some (.int x)] [] (eM a s)) ?_ ?_ 0 (Nat.zero_le _) _ _ rfl rfl
  · intro x y hx hy
    subst hx; subst hy
    refine xwp_go g1 [5] 100 _ _ _ _ ?_
    refine And.intro (fun h => ?_) (fun h => ?_)
    · exact xri (G := G) g2 rfl rfl rfl
    · rw [h0] at h
      exact absurd (nI_le (Nat.le_refl _) (by omega)) h
  · intro i hi ih x y hx hy
    subst hx; subst hy
    refine xwp_go g1 [5] 100 _ _ _ _ ?_
    refine And.intro (fun h => ?_) (fun h => ?_)
    · rw [h0] at h
      exact absurd h (nI_ge hi (by omega))
    · refine And.intro (fun h => ?_) (fun h => ?_) <;> rw [nI_bit1 (by omega) hs] at h
      · exact ih _ _ (nI_1 i) (by rw [laidL_n (by simpa using h)])
      · refine And.intro (fun h' => ?_) (fun h' => ?_) <;> rw [nI_bit1 (by omega) ho] at h'
        · refine xcM (G := G) g3 (m_onSlide d hr' hi) ?_
          refine xwp_go g1 [5] 100 _ _ _ _ ?_
          refine ih _ _ (nI_1 i) ?_
          rw [fa_or, laidL_s h, if_neg h']
        · refine xcM (G := G) g3 (m_onSlide d hr' hi) ?_
          refine xwp_go g1 [5] 100 _ _ _ _ ?_
          refine xcallR (G := G) g3 [] (m_mirrored (d + 1) [] (onQ_lt hok hi)) ?_
          refine xwp_go g1 [5] 100 _ _ _ _ ?_
          refine ih _ _ (nI_1 i) ?_
          rw [fa_or, laidL_s h, if_pos h']
/-- ends of the reference's: an int, nothing, a lantern that is q', all else as it was -/
def sameM (a a' : Nat → Nat → Int32) : Prop := ∀ r, 6 ≤ r → a' r = a r
def xRetM (r : Int32) (q' : LQ) (a : Nat → Nat → Int32) (s : Nat → Int32) : xPost := fun v w => v = some (.int r) ∧ ∃ a', relS q' a' s ∧ sameM a a' ∧ w = eM a' s
theorem m_projects (d : Nat) {q : LQ} {a : Nat → Nat → Int32} {s : Nat → Int32} (hr : relS q a s) {set : Nat} (hs : set < 2 ^ 31) : xCt xMs (d + 4) nX6_projects [.ref 0, .int (nI set)] (eM a s) (xRetM (nI (laidQ q set 0)) (projQ q set) a s) := by
  have h6 := hr.1.1
  have h0 := hr.2.2.2.1
  have h2 := hr.2.2.2.2.2
  have p1 := hr.1.2.2.1
  have p9 := hr.1.2.2.2.1
  refine xV (M := mX6_projects) rfl rfl rfl rfl rfl pX6_projects rfl (fun G g1 g2 g3 => ?_)
  refine xwp_go g1 [9] 100 _ _ _ _ ?_
  refine xcM (G := G) g3 (m_laid d hr hs (show 0 < 2 ^ 31 by decide)) ?_
  refine xwp_go g1 [9] 100 _ _ _ _ ?_
  refine up (k := q 6 0) (P := fun i => ∀ x a1, x = nI i → relS (projL q set i) a1 s → sameM a a1 → G 9 [some (.ref 0), some (.int (nI set)), some (.int (nI (laidQ q set 0))), some (.int x)] [] (eM a1 s)) ?_ ?_ 0 (Nat.zero_le _) _ _ rfl hr (fun _ _ => rfl)
  · intro x a1 hx h1 hsm
    subst hx
    refine xwp_go g1 [9] 100 _ _ _ _ ?_
    refine And.intro (fun h => ?_) (fun h => ?_)
    · exact xri' (G := G) g2 rfl ⟨rfl, a1, h1, hsm, rfl⟩
    · rw [h0] at h
      exact absurd (nI_le (Nat.le_refl _) (by omega)) h
  · intro i hi ih x a1 hx h1 hsm
    subst hx
    have cl : (nI i).toNatClampNeg = i := nI_clamp (by omega)
    have hi' : i < projL q set i 6 0 := by rw [projL_6]; exact hi
    obtain ⟨k0, k1, k2, k3, k4⟩ := h1.2.1 i hi'
    obtain ⟨b0, b1, b2, b3, b4⟩ := h1.1.2.2.2.2.1 i hi'
    have hin : vp_in (nI i) 8 := vp_in_nI (by omega) (by decide)
    have hu := useN_le (projL q set i 4 i)
    refine xwp_go g1 [9, 53] 100 _ _ _ _ ?_
    refine And.intro (fun h => ?_) (fun h => ?_)
    · rw [h0] at h
      exact absurd h (nI_ge hi (by omega))
    refine And.intro (fun h => ?_) (fun h => ?_) <;> rw [nI_bit0 (by omega) hs] at h
    · rw [Bool.not_eq_false] at h
      refine And.intro hin (And.intro hin ?_)
      -- behind the uses: with u the new number
      have rest : ∀ u : Int32, u = nI (useN (projL q set i 4 i)) → G 53 [some (.ref 0), some (.int (nI set)), some (.int (nI (laidQ q set 0))), some (.int (nI i))] [] (eM (aU a1 4 (upd (a1 4) (nI i).toNatClampNeg u)) s) := by
        intro u hu'
        have eu : upd (a1 4) (nI i).toNatClampNeg u (nI i).toNatClampNeg = nI (useN (projL q set i 4 i)) := by rw [upd_at, if_pos rfl, hu']
        have e4 : ∀ j, upd (a1 4) (nI i).toNatClampNeg u j = if j = i then nI (useN (projL q set i 4 i)) else a1 4 j := fun j => by rw [cl, hu']; rfl
        have hm : useN (projL q set i 4 i) % q 6 2 < 2 ^ 31 := Nat.lt_of_le_of_lt (Nat.mod_le _ _) (by omega)
        refine xwp_go g1 [9] 100 _ _ _ _ ?_
        refine And.intro hin (And.intro (by rw [h2]; exact nI_ne0 (by omega) (by omega)) ?_)
        refine And.intro (fun h' => ?_) (fun h' => ?_)
        · have h' : ¬ upd (a1 4) (nI i).toNatClampNeg u (nI i).toNatClampNeg - upd (a1 4) (nI i).toNatClampNeg u (nI i).toNatClampNeg / s 2 * s 2 = 0 := h'
          rw [eu, h2, pk_rem (by omega) (by omega) (by omega)] at h'
          have hne : ¬ useN (projL q set i 4 i) % projL q set i 6 2 = 0 := fun e => h' (by rw [projL_6] at e; rw [e]; rfl)
          refine ih _ (aU a1 4 (upd (a1 4) (nI i).toNatClampNeg u)) (nI_1 i) ?_ (fun r hr => ?_)
          · rw [projL_s h]
            refine rel_wear h1 hi' rfl rfl rfl rfl e4 (fun j => ?_)
            rw [if_neg hne]
            show a1 2 j = _
            by_cases e : j = i
            · rw [if_pos e, e, k2]
            · rw [if_neg e]
          · rw [← hsm r hr]
            exact aU_ne (by omega)
        · have h' : upd (a1 4) (nI i).toNatClampNeg u (nI i).toNatClampNeg - upd (a1 4) (nI i).toNatClampNeg u (nI i).toNatClampNeg / s 2 * s 2 = 0 := h'
          rw [eu, h2, pk_rem (by omega) (by omega) (by omega)] at h'
          have he : useN (projL q set i 4 i) % projL q set i 6 2 = 0 := by rw [projL_6]; exact (nI_eq hm (by decide)).mp h'
          refine And.intro hin (And.intro hin (And.intro (by decide) (And.intro hin ?_)))
          refine ih _ (aU (aU a1 4 (upd (a1 4) (nI i).toNatClampNeg u)) 2 (upd (a1 2) (nI i).toNatClampNeg _)) (nI_1 i) ?_ (fun r hr => ?_)
          · rw [projL_s h]
            refine rel_wear h1 hi' rfl rfl rfl rfl e4 (fun j => ?_)
            rw [if_pos he]
            show upd (a1 2) (nI i).toNatClampNeg (a1 2 (nI i).toNatClampNeg &&& ((1 : Int32) <<< ((upd (a1 4) (nI i).toNatClampNeg u (nI i).toNatClampNeg - upd (a1 4) (nI i).toNatClampNeg u (nI i).toNatClampNeg / 16 * 16) &&& 31) ^^^ (-1))) j = _
            rw [eu, show (16 : Int32) = nI 16 from rfl, pk_rem (by omega) (by decide) (by decide), cl, k2, nI_pow (by omega), nI_andn]
            rfl
          · rw [← hsm r hr]
            rw [aU_ne (by omega), aU_ne (by omega)]
      refine And.intro (fun h' => ?_) (fun h' => ?_) <;> rw [cl, k4, show (99 : Int32) = nI 99 from rfl, nI_leI (by omega) (by omega)] at h'
      · refine And.intro hin (rest _ ?_)
        rw [cl, k4, show (0 : Int32) = nI 0 from rfl, nI_add]
        unfold useN
        rw [if_neg (by omega)]
        exact congrArg nI (by omega)
      · refine And.intro hin (rest _ ?_)
        rw [cl, k4, nI_1]
        unfold useN
        rw [if_pos (by omega)]
    · exact ih _ _ (nI_1 i) (by rw [projL_n h]; exact h1) hsm
/-- what a set costs -/
def costL (q : LQ) (set : Nat) : Nat → Nat
  | 0 => 0
  | i + 1 => costL q set i + (if set.testBit i then q 3 i else 0)
theorem m_pricesOf (d : Nat) {q : LQ} {a : Nat → Nat → Int32} {s : Nat → Int32} (hr : relS q a s) {set : Nat} (hs : set < 2 ^ 31) : xCt xMs (d + 1) nX6_pricesOf [.ref 0, .int (nI set)] (eM a s) (xRet (nI (costL q set (q 6 0))) (eM a s)) := by
  obtain ⟨hok, hA, hW, h0, h1, h2⟩ := hr
  have h6 := hok.1
  refine xV (M := mX6_pricesOf) rfl rfl rfl rfl rfl pX6_pricesOf rfl (fun G g1 g2 g3 => ?_)
  refine xwp_go g1 [4] 100 _ _ _ _ ?_
  refine up (k := q 6 0) (P := fun i => ∀ x y, x = nI i → y = nI (costL q set i) → G 4 [some (.ref 0), some (.int (nI set)), some (.int y), some (.int x)] [] (eM a s)) ?_ ?_ 0 (Nat.zero_le _) _ _ rfl rfl
  · intro x y hx hy
    subst hx; subst hy
    refine xwp_go g1 [4] 100 _ _ _ _ ?_
    refine And.intro (fun h => xri (G := G) g2 rfl rfl rfl) (fun h => ?_)
    rw [h0] at h
    exact absurd (nI_le (Nat.le_refl _) (by omega)) h
  · intro i hi ih x y hx hy
    subst hx; subst hy
    refine xwp_go g1 [4] 100 _ _ _ _ ?_
    refine And.intro (fun h => ?_) (fun h => ?_)
    · rw [h0] at h
      exact absurd h (nI_ge hi (by omega))
    · refine And.intro (vp_in_nI (by omega) (by decide)) ?_
      refine ih _ _ (nI_1 i) ?_
      rw [nI_clamp (by omega), (hA i hi).2.2.2.1, nI_bit (by omega) hs, pk_mul, nI_add, bit_tb]
      refine congrArg nI ?_
      show _ = costL q set i + (if set.testBit i then q 3 i else 0)
      split <;> simp
theorem m_placeOf (d : Nat) (ws : xH) {a b c : Nat} : xCt xMs (d + 1) nX6_placeOf [.int (nI a), .int (nI b), .int (nI c)] ws (xRet (nI (1024 * a + 256 * b + c)) ws) := by
  refine xS (M := mX6_placeOf) rfl rfl pX6_placeOf rfl (fun G g1 g2 g3 => ?_)
  refine xwp_go g1 [] 100 _ _ _ _ ?_
  exact xri (G := G) g2 rfl (by rw [show (1024 : Int32) = nI 1024 from rfl, show (256 : Int32) = nI 256 from rfl, pk_mul, pk_mul, nI_add, nI_add]) rfl
/-- a refusal more -/
def inc (f : Nat → Int32) (k : Nat) : Nat → Int32 := upd f k (f k + 1)
theorem m_no (d : Nat) (a : Nat → Nat → Int32) (s : Nat → Int32) {why : Int32} {k : Nat} (hk : k < 7) (hw : -why = nI k) : xCt xMs (d + 1) nX6_no [.ref 0, .int why] (eM a s) (xRet why (eM (aU a 6 (inc (a 6) k)) s)) := by
  have hin : vp_in (-why) 7 := by rw [hw]; exact vp_in_nI hk (by decide)
  refine xV (M := mX6_no) rfl rfl rfl rfl rfl pX6_no rfl (fun G g1 g2 g3 => ?_)
  refine xwp_go g1 [] 100 _ _ _ _ ?_
  refine And.intro hin (And.intro hin ?_)
  refine xri (G := G) g2 rfl rfl ?_
  have e : (-why).toNatClampNeg = k := by rw [hw]; exact nI_clamp (by omega)
  rw [e]
  rfl
theorem m_lowest (d : Nat) (a : Nat → Nat → Int32) (s : Nat → Int32) {why : Int32} {k : Nat} (hk : k < 7) (hw : -why = nI k) : xCt xMs (d + 1) nX6_lowest [.ref 0, .int why] (eM a s) (xRetL (4000000000000000000 - why.toInt64) (eM (aU a 6 (inc (a 6) k)) s)) := by
  have hin : vp_in (-why) 7 := by rw [hw]; exact vp_in_nI hk (by decide)
  refine xV (M := mX6_lowest) rfl rfl rfl rfl rfl pX6_lowest rfl (fun G g1 g2 g3 => ?_)
  refine xwp_go g1 [] 100 _ _ _ _ ?_
  refine And.intro hin (And.intro hin ?_)
  refine xrl (G := G) g2 rfl rfl ?_
  have e : (-why).toNatClampNeg = k := by rw [hw]; exact nI_clamp (by omega)
  rw [e]
  rfl
