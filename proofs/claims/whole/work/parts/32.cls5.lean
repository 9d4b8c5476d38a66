/-! the class's calls: who, dust -/
theorem crackL_le (o on p : Nat) : ∀ c, crackL o on p c ≤ c
  | 0 => Nat.le_refl _
  | c + 1 => by
    have ih := crackL_le o on p c
    show crackL o on p c + (if on.testBit c ∧ o ||| clr on c = p then 1 else 0) ≤ c + 1
    split <;> omega
theorem whoL_out {q : LQ} {m o n : Nat} (hm : m < 2 ^ n) : ∀ k, whoL q m o (n + k) = whoL q m o n
  | 0 => rfl
  | k + 1 => by
    show (if m.testBit (n + k) then _ else whoL q m o (n + k)) = _
    rw [if_neg (by rw [Nat.testBit_lt_two_pow (Nat.lt_of_lt_of_le hm (Nat.pow_le_pow_right (by decide) (by omega)))]; decide), whoL_out hm k]
theorem x_who (d : Nat) {S : SG} {A : Nat → Nat → Int32} {N : Nat → Int32} (hr : relX S A N) (x p w : Int32) : xCt xMs (d + 5) nX5_who [.ref 0, .int x, .int p, .int w] (eX A N) (pXs (spWho S x p w)) := by
  have hl := lt256 hr.1.1
  have h8 := hr.1.1.1
  refine xV (M := mX5_who) rfl rfl rfl rfl rfl pX5_who rfl (fun G g1 g2 g3 => ?_)
  unfold spWho at g2
  refine xwp_go g1 [] 100 _ _ _ _ ?_
  refine xcX (G := G) g3 (x_wrongSet (d + 2) hr.1 x) ?_
  refine xwp_go g1 [] 100 _ _ _ _ ?_
  refine xcallR (G := G) g3 [] (x_wrongAsked (d + 2) [] p w 1) ?_
  refine xwp_go g1 [] 100 _ _ _ _ ?_
  refine xcallR (G := G) g3 [] (x_first (d + 3) [] _ _) ?_
  rw [ask_eq]
  refine xwp_go g1 [] 100 _ _ _ _ ?_
  refine And.intro (fun h => ?_) (fun h => ?_)
  · rw [if_neg (fun z => z h)] at g2
    generalize hwhy : askI (S.1 6 0) x p w 1 = why at *
    obtain ⟨⟨m, hm, rfl⟩, ⟨k, hk, rfl⟩, ⟨o, ho, rfl⟩⟩ := ask_0 (m := 1) (by decide) (hwhy.trans h)
    rw [nI_clamp (by omega), nI_clamp (by omega)] at g2
    have hla := laidQ_lt hr.1.1 m 0
    refine xcN (G := G) g3 (c_laid (d + 1) hr.1 (set := m) (over := 0) (by omega) (by decide)) ?_
    refine xwp_go g1 [52] 100 _ _ _ _ ?_
    refine And.intro (fun hs => ?_) (fun hs => ?_) <;> rw [nI_eq (by omega) (by omega)] at hs
    · rw [if_neg hs, ← whoL_out (q := S.1) (o := o) hm (8 - S.1 6 0), show S.1 6 0 + (8 - S.1 6 0) = 8 by omega] at g2
      refine up (k := 8) (P := fun i => ∀ x y z u8, x = nI i → y = nI (whoL S.1 m o i).1 → z = nI (whoL S.1 m o i).2 → G 52 [some (.ref 0), some (.int (nI m)), some (.int (nI o)), some (.int (nI k)), some (.int why), some (.int y), some (.int z), some (.int x), u8] [] (eX A N)) ?_ ?_ 0 (Nat.zero_le _) _ _ _ _ rfl rfl rfl
      · intro x y z u8 hx hy hz
        subst hx; subst hy; subst hz
        refine xwp_go g1 [52] 100 _ _ _ _ ?_
        refine And.intro (fun _ => ?_) (fun h3 => absurd (by decide) h3)
        refine And.intro (fun h4 => ?_) (fun h4 => ?_)
        · rw [if_neg h4] at g2
          exact xri' (G := G) g2 rfl ⟨rfl, A, N, hr, rfl⟩
        · rw [if_pos h4] at g2
          exact xri' (G := G) g2 rfl ⟨rfl, A, N, hr, rfl⟩
      · intro i hi ih x y z u8 hx hy hz
        subst hx; subst hy; subst hz
        refine xwp_go g1 [52] 100 _ _ _ _ ?_
        refine And.intro (fun h3 => absurd h3 (nI_ge (b := 8) hi (by decide))) (fun _ => ?_)
        refine And.intro (fun h3 => ?_) (fun h3 => ?_) <;> rw [nI_bit0 (by omega) (by omega)] at h3
        · have es : whoL S.1 m o (i + 1) = whoL S.1 m o i := by
            show (if m.testBit i then _ else _) = _
            rw [if_neg (by rw [h3]; decide)]
          refine And.intro (fun _ => ?_) (fun h4 => absurd (by decide) h4)
          exact ih _ _ _ _ (nI_1 i) (by rw [es]) (by rw [es, Int32.add_zero])
        · rw [Bool.not_eq_false] at h3
          have hin : i < S.1 6 0 := by
            rcases Nat.lt_or_ge i (S.1 6 0) with h | h
            · exact h
            · rw [Nat.testBit_lt_two_pow (Nat.lt_of_lt_of_le hm (Nat.pow_le_pow_right (by decide) h))] at h3
              exact absurd h3 (by decide)
          have es : whoL S.1 m o (i + 1) = ((if crackL (laidQ S.1 (clr m i) 0) (onQ S.1 i) o 16 = 0 then (whoL S.1 m o i).1 else (whoL S.1 m o i).1 ||| 2 ^ i), (whoL S.1 m o i).2 + crackL (laidQ S.1 (clr m i) 0) (onQ S.1 i) o 16) := by
            show (if m.testBit i then _ else _) = _
            rw [if_pos h3]
          refine xcN (G := G) g3 (c_cracksToShow d hr.1 (set := m) (by omega) hin ho) ?_
          have hc := crackL_le (laidQ S.1 (clr m i) 0) (onQ S.1 i) o 16
          generalize crackL (laidQ S.1 (clr m i) 0) (onQ S.1 i) o 16 = c at hc es
          refine xwp_go g1 [52] 100 _ _ _ _ ?_
          refine And.intro (fun h4 => ?_) (fun h4 => ?_) <;> rw [show (0 : Int32) = nI 0 from rfl, nI_leI (by omega) (by decide)] at h4
          · exact ih _ _ _ _ (nI_1 i) (by rw [es, if_pos (show c = 0 by omega)]) (by rw [es, nI_add])
          · exact ih _ _ _ _ (nI_1 i) (by rw [es, if_neg (show ¬ c = 0 by omega), nI_pow (by omega), fa_or]) (by rw [es, nI_add])
    · rw [if_pos hs] at g2
      exact xri' (G := G) g2 rfl ⟨rfl, A, N, hr, rfl⟩
  · rw [if_pos h] at g2
    refine xcXW (G := G) g3 (x_refused (d + 3) A N (ask_k0 h) (ask_k h).1 (ask_k h).2) ?_
    refine xwp_go g1 [] 100 _ _ _ _ ?_
    exact xri' (G := G) g2 rfl ⟨rfl, _, N, relX_no hr, rfl⟩
theorem x_power (d : Nat) (ws : xH) {b : Nat} (hb : b < 2 ^ 31) {c : Nat} (hc : c < 2 ^ 31) : xCt xMs (d + 1) nX5_power [.int (nI b), .int (nI c)] ws (xRetL (lN (b ^ c)) ws) := by
  refine xS (M := mX5_power) rfl rfl pX5_power rfl (fun G g1 g2 g3 => ?_)
  refine xwp_go g1 [5] 100 _ _ _ _ ?_
  refine up (k := c) (P := fun i => ∀ x y, x = nI i → y = lN (b ^ i) → G 5 [some (.int (nI b)), some (.int (nI c)), some (.long y), none, some (.int x)] [] ws) ?_ ?_ 0 (Nat.zero_le _) _ _ rfl rfl
  · intro x y hx hy
    subst hx; subst hy
    refine xwp_go g1 [5] 100 _ _ _ _ ?_
    exact And.intro (fun _ => xrl (G := G) g2 rfl rfl rfl) (fun h => absurd (nI_le (Nat.le_refl _) hc) h)
  · intro i hi ih x y hx hy
    subst hx; subst hy
    refine xwp_go g1 [5] 100 _ _ _ _ ?_
    refine And.intro (fun h => absurd h (nI_ge hi hc)) (fun _ => ?_)
    exact ih _ _ (nI_1 i) (by rw [nI_l hb, lN_mul, Nat.pow_succ])
def rdN (t : Nat) : Nat → Nat × Nat
  | 0 => (10 - t, 10)
  | k + 1 => if (rdN t k).1 % (k + 2) = 0 ∧ (rdN t k).2 % (k + 2) = 0 then ((rdN t k).1 / (k + 2), (rdN t k).2 / (k + 2)) else rdN t k
theorem rdN_le (t : Nat) : ∀ k, (rdN t k).1 ≤ 10 ∧ (rdN t k).2 ≤ 10
  | 0 => ⟨Nat.sub_le _ _, Nat.le_refl _⟩
  | k + 1 => by
    have ih := rdN_le t k
    unfold rdN
    split
    · exact ⟨Nat.le_trans (Nat.div_le_self _ _) ih.1, Nat.le_trans (Nat.div_le_self _ _) ih.2⟩
    · exact ih
theorem rd_dust : ∀ t, t < 10 → ∀ c, c < 17 → (rdN t 4).1 ^ c = dustN t 0 c ∧ (rdN t 4).2 ^ c = dustN t 1 c := by decide +kernel
def pXl (x : Int64 × SG) : xPost := fun v w => v = some (.long x.1) ∧ ∃ A N, relX x.2 A N ∧ w = eX A N
theorem x_dust (d : Nat) {S : SG} {A : Nat → Nat → Int32} {N : Nat → Int32} (hr : relX S A N) (x t p : Int32) : xCt xMs (d + 4) nX5_dust [.ref 0, .int x, .int t, .int p] (eX A N) (pXl (spDust S x t p)) := by
  have hl := lt256 hr.1.1
  refine xV (M := mX5_dust) rfl rfl rfl rfl rfl pX5_dust rfl (fun G g1 g2 g3 => ?_)
  unfold spDust at g2
  refine xwp_go g1 [] 100 _ _ _ _ ?_
  refine xcX (G := G) g3 (x_wrongSet (d + 1) hr.1 x) ?_
  refine xwp_go g1 [] 100 _ _ _ _ ?_
  refine xcallR (G := G) g3 [] (x_wrongWhat (d + 2) [] p 1) ?_
  refine xwp_go g1 [] 100 _ _ _ _ ?_
  refine xcallR (G := G) g3 [] (x_first (d + 2) [] _ _) ?_
  refine xwp_go g1 [] 100 _ _ _ _ ?_
  refine xcallR (G := G) g3 [] (x_wrongNumber (d + 2) [] t 0 9) ?_
  refine xwp_go g1 [] 100 _ _ _ _ ?_
  refine xcallR (G := G) g3 [] (x_first (d + 2) [] _ _) ?_
  have low : ∀ {why : Int32} {loc : xL} {k : Nat}, 0 < k → k < 7 → -why = nI k → k = refK why → xG2 mX5_dust.2.2.2.2.1 mX5_dust.2.2.2.1 (pXl (rfl8 S why)) G → G 34 [some (.ref 0), some (.int x), some (.int t), some (.int p), some (.int why), none, none, none, none] [] (eX A N) := by
    intro why loc k hk0 hk hw hkk g2
    refine xwp_go g1 [] 100 _ _ _ _ ?_
    refine xcXW (G := G) g3 (x_refused (d + 2) A N hk0 hk hw) ?_
    refine xwp_go g1 [] 100 _ _ _ _ ?_
    exact xrl' (G := G) g2 rfl ⟨rfl, _, N, by show relX (refu S (refK why)) _ N; rw [← hkk]; exact relX_no hr, rfl⟩
  by_cases h1 : setB (S.1 6 0) x = false
  · rw [if_pos h1] at g2
    rw [h1, show (if (if wsI false = 0 then wwI p 1 else wsI false) = 0 then bndI t 0 9 else (if wsI false = 0 then wwI p 1 else wsI false)) = -1 from rfl]
    refine xwp_go g1 [34] 100 _ _ _ _ ?_
    refine And.intro (fun h => absurd h (by decide)) (fun _ => low (loc := []) (k := 1) (by decide) (by decide) (by decide) (by decide) g2)
  rw [if_neg h1] at g2
  have h1' : setB (S.1 6 0) x = true := Bool.not_eq_false _ ▸ h1
  rw [h1', show (if wsI true = 0 then wwI p 1 else wsI true) = wwI p 1 from rfl]
  obtain ⟨m, hm, rfl⟩ := setB_of h1'
  by_cases h2 : inB p 0 1 = false
  · rw [if_pos h2] at g2
    rw [show wwI p 1 = -2 from by unfold wwI; rw [if_pos h2], show (if (-2 : Int32) = 0 then bndI t 0 9 else -2) = -2 from rfl]
    refine xwp_go g1 [34] 100 _ _ _ _ ?_
    refine And.intro (fun h => absurd h (by decide)) (fun _ => low (loc := []) (k := 2) (by decide) (by decide) (by decide) (by decide) g2)
  rw [if_neg h2] at g2
  have h2' : inB p 0 1 = true := Bool.not_eq_false _ ▸ h2
  rw [show wwI p 1 = 0 from wwI_0.mpr h2', if_pos rfl]
  refine xwp_go g1 [34, 76] 100 _ _ _ _ ?_
  refine And.intro (fun h3 => ?_) (fun h3 => ?_)
  · rw [if_neg (fun z => z h3)] at g2
    obtain ⟨tn, -, ht, rfl⟩ := bnd_0 (l := 0) (m := 9) (by decide) (by decide) h3
    obtain ⟨pn, -, hpn, rfl⟩ := inB_of (l := 0) (m := 1) (by decide) (by decide) h2'
    rw [nI_clamp (by omega), nI_clamp (by omega), nI_clamp (by omega)] at g2
    generalize bndI (nI tn) 0 9 = why
    have hla := laidQ_lt hr.1.1 m 0
    refine xcN (G := G) g3 (c_laid d hr.1 (set := m) (over := 0) (by omega) (by decide)) ?_
    refine xwp_go g1 [76] 100 _ _ _ _ ?_
    refine xcallR (G := G) g3 [] (c_bitCount (d + 2) [] hla) ?_
    have hb := pop_le (laidQ S.1 m 0)
    generalize pop (laidQ S.1 m 0) = b at g2 hb
    have e16 : (16 : Int32) - nI b = nI (16 - b) := pk_sub (a := 16) hb
    have e10 : (10 : Int32) - nI tn = nI (10 - tn) := pk_sub (a := 10) (by omega)
    refine xwp_go g1 [76] 100 _ _ _ _ ?_
    refine up (k := 4) (P := fun i => ∀ c x y z, c = nI (16 - b) → x = nI (i + 2) → y = nI (rdN tn i).1 → z = nI (rdN tn i).2 → G 76 [some (.ref 0), some (.int (nI m)), some (.int (nI tn)), some (.int (nI pn)), some (.int why), some (.int c), some (.int y), some (.int z), some (.int x)] [] (eX A N)) ?_ ?_ 0 (Nat.zero_le _) _ _ _ _ e16 rfl e10 rfl
    · intro c x y z hc hx hy hz
      subst hc; subst hx; subst hy; subst hz
      have hd := rd_dust tn (by omega) (16 - b) (by omega)
      have hle := rdN_le tn 4
      refine xwp_go g1 [76] 100 _ _ _ _ ?_
      refine And.intro (fun _ => ?_) (fun h => absurd (by decide) h)
      refine And.intro (fun h4 => ?_) (fun h4 => ?_) <;> rw [show (0 : Int32) = nI 0 from rfl, nI_eq (by omega) (by decide)] at h4
      · refine xcall (G := G) g3 [] (x_power (d + 2) [] (b := (rdN tn 4).2) (c := 16 - b) (by omega) (by omega)) (fun v wc' hp _ => ?_)
        obtain ⟨rfl, rfl⟩ := hp
        refine xwp_go g1 [76] 100 _ _ _ _ ?_
        exact xrl' (G := G) g2 rfl ⟨by rw [hd.2, show pn = 1 by omega], A, N, hr, rfl⟩
      · refine xcall (G := G) g3 [] (x_power (d + 2) [] (b := (rdN tn 4).1) (c := 16 - b) (by omega) (by omega)) (fun v wc' hp _ => ?_)
        obtain ⟨rfl, rfl⟩ := hp
        refine xwp_go g1 [76] 100 _ _ _ _ ?_
        exact xrl' (G := G) g2 rfl ⟨by rw [hd.1, h4], A, N, hr, rfl⟩
    · intro i hi ih c x y z hc hx hy hz
      subst hc; subst hx; subst hy; subst hz
      obtain ⟨l1, l2⟩ := rdN_le tn i
      have es : rdN tn (i + 1) = if (rdN tn i).1 % (i + 2) = 0 ∧ (rdN tn i).2 % (i + 2) = 0 then ((rdN tn i).1 / (i + 2), (rdN tn i).2 / (i + 2)) else rdN tn i := rfl
      have hne : ¬ nI (i + 2) = 0 := nI_ne0 (by omega) (by omega)
      have m1 : (rdN tn i).1 % (i + 2) ≤ 10 := Nat.le_trans (Nat.mod_le _ _) l1
      have m2 : (rdN tn i).2 % (i + 2) ≤ 10 := Nat.le_trans (Nat.mod_le _ _) l2
      refine xwp_go g1 [76] 100 _ _ _ _ ?_
      refine And.intro (fun h => absurd h (nI_nlt (a := 5) (by omega) (by decide))) (fun _ => ?_)
      refine And.intro hne ?_
      refine And.intro (fun h4 => ?_) (fun h4 => ?_) <;> rw [pk_rem (by omega) (by omega) (by omega), show (0 : Int32) = nI 0 from rfl, nI_eq (by omega) (by decide)] at h4
      · refine ih _ _ _ _ rfl (by rw [nI_1]) ?_ ?_ <;> rw [es, if_neg (fun z => h4 z.1)]
      refine And.intro hne ?_
      refine And.intro (fun h5 => ?_) (fun h5 => ?_) <;> rw [pk_rem (by omega) (by omega) (by omega), show (0 : Int32) = nI 0 from rfl, nI_eq (by omega) (by decide)] at h5
      · refine And.intro hne (And.intro hne ?_)
        refine ih _ _ _ _ rfl (by rw [nI_1]) ?_ ?_ <;> rw [es, if_pos ⟨h4, h5⟩, pk_div (by omega) (by omega) (by omega)]
      · refine ih _ _ _ _ rfl (by rw [nI_1]) ?_ ?_ <;> rw [es, if_neg (fun z => h5 z.2)]
  · rw [if_pos h3] at g2
    exact low (loc := []) (bnd_k0 h3) (bnd_k h3).1 (bnd_k h3).2 rfl g2
