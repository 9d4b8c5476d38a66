/-! dust: the reference's; a common spec of both -/
def upN (t c : Nat) : Nat := (10 - t) ^ c
def dustN (t part c : Nat) : Nat := (if part = 0 then (10 - t) ^ c else 10 ^ c) / Nat.gcd ((10 - t) ^ c) (10 ^ c)
/-- answers that are long -/
def pMl (x : Int64 × SG) : xPost := fun v w => v = some (.long x.1) ∧ ∃ a s, relM x.2 a s ∧ w = eM a s
def rfl8 (S : SG) (w : Int32) : Int64 × SG := (4000000000000000000 - w.toInt64, refu S (refK w))
def spDust (S : SG) (x t p : Int32) : Int64 × SG := if setB (S.1 6 0) x = false then rfl8 S (-1) else if inB p 0 1 = false then rfl8 S (-2) else if ¬ bndI t 0 9 = 0 then rfl8 S (bndI t 0 9) else (lN (dustN t.toNatClampNeg p.toNatClampNeg (16 - pop (laidQ S.1 x.toNatClampNeg 0))), S)
theorem xrl' {tb : xT} {G : xK} {Post : xPost} {pc n : Nat} {an : List (Int32 × Nat)} {j : Int64} {loc : xL} {ws : xH} {x : Int64} (g2 : xG2 tb (some .long) Post G) (hi : xlk tb pc = some (.lreturn, n, an, j)) (hp : Post (some (.long x)) ws) : G pc loc [.long x] ws := g2.2.1 _ _ _ _ _ _ _ hi rfl hp
theorem m_divisor (d : Nat) (ws : xH) {x y : Nat} (hx : x < 2 ^ 63) (hy : y < 2 ^ 63) : xCt xMs (d + 1) nX6_divisor [.long (lN x), .long (lN y)] ws (xRetL (lN (Nat.gcd x y)) ws) := by
  refine xS (M := mX6_divisor) rfl rfl pX6_divisor rfl (fun G g1 g2 g3 => ?_)
  refine xwp_go g1 [6] 100 _ _ _ _ ?_
  have loop : ∀ b a z, a < 2 ^ 63 → b < 2 ^ 63 → Nat.gcd a b = Nat.gcd x y → G 6 [some (.long (lN x)), none, some (.long (lN y)), none, some (.long (lN a)), none, some (.long (lN b)), none, z, none] [] ws := by
    intro b
    induction b using Nat.strongRecOn with
    | _ b ih =>
      intro a z ha hb he
      refine xwp_go g1 [6] 100 _ _ _ _ ?_
      refine And.intro (fun h => ?_) (fun h => ?_) <;> rw [lg_cmp_eq, show (0 : Int64) = lN 0 from rfl, pk_lEQ hb (by decide)] at h
      · refine xrl (G := G) g2 rfl ?_ rfl
        rw [h, Nat.gcd_zero_right] at he
        rw [he]
      · refine And.intro (fun h2 => h ((pk_lEQ hb (by decide)).mp h2)) ?_
        rw [pk_lRem ha (by omega) hb]
        have hlt : a % b < b := Nat.mod_lt _ (by omega)
        exact ih (a % b) hlt b _ hb (by omega) (by rw [← he, Nat.gcd_comm a b, Nat.gcd_rec b a, Nat.gcd_comm])
  exact loop y x _ hx hy rfl
theorem m_dust (d : Nat) {S : SG} {a : Nat → Nat → Int32} {s : Nat → Int32} (hr : relM S a s) (x t p : Int32) : xCt xMs (d + 4) nX6_dust [.ref 0, .int x, .int t, .int p] (eM a s) (pMl (spDust S x t p)) := by
  have hl := lt256 hr.1.1
  refine xV (M := mX6_dust) rfl rfl rfl rfl rfl pX6_dust rfl (fun G g1 g2 g3 => ?_)
  unfold spDust at g2
  refine xwp_go g1 [] 100 _ _ _ _ ?_
  refine xcM (G := G) g3 (m_areSlides (d + 2) hr.1 x) ?_
  refine xwp_go g1 [] 100 _ _ _ _ ?_
  have low : ∀ {why : Int32} {k : Nat} {pc : Nat} {loc : xL} {n x : Nat} {v0 : Int32} {j : Int64}, k < 7 → -why = nI k → k = refK why → xG2 mX6_dust.2.2.2.2.1 mX6_dust.2.2.2.1 (pMl (rfl8 S why)) G → xlk mX6_dust.2.2.2.2.1 pc = some (.invokevirtual x, n, [(v0, nX6_lowest)], j) → (∃ n2 an2 j2, xlk mX6_dust.2.2.2.2.1 (pc + 3) = some (.lreturn, n2, an2, j2)) → G pc loc [.int why, .ref 0] (eM a s) := by
    intro why k pc loc n x v0 j hk hw hkk g2 hi ⟨n2, an2, j2, hi2⟩
    refine xcall (G := G) g3 pM (m_lowest (d + 2) a s hk hw) (fun v wc' hp _ => ?_) rfl hi rfl rfl rfl (xsubM a s)
    obtain ⟨rfl, rfl⟩ := hp
    rw [xputM]
    exact g2.2.1 _ _ _ _ _ _ _ hi2 rfl ⟨rfl, _, s, by show relM (refu S (refK why)) _ s; rw [← hkk]; exact relM_no hr, rfl⟩
  refine And.intro (fun h => ?_) (fun h => ?_) <;> rw [bI_0] at h
  · rw [if_neg h] at g2
    refine xcallR (G := G) g3 [] (m_isIn (d + 2) [] p 0 1) ?_
    refine xwp_go g1 [] 100 _ _ _ _ ?_
    refine And.intro (fun h1 => ?_) (fun h1 => ?_) <;> rw [bI_0] at h1
    · rw [if_neg h1] at g2
      refine xcallR (G := G) g3 [] (m_bound (d + 2) [] t 0 9) ?_
      refine xwp_go g1 [] 100 _ _ _ _ ?_
      refine And.intro (fun h2 => ?_) (fun h2 => ?_)
      · rw [if_neg (fun z => z h2)] at g2
        obtain ⟨m, hm, rfl⟩ := setB_of (Bool.not_eq_false _ ▸ h)
        obtain ⟨tn, -, ht, rfl⟩ := bnd_0 (l := 0) (m := 9) (by decide) (by decide) h2
        obtain ⟨pn, -, hpn, rfl⟩ := inB_of (l := 0) (m := 1) (by decide) (by decide) (Bool.not_eq_false _ ▸ h1)
        rw [nI_clamp (by omega), nI_clamp (by omega), nI_clamp (by omega)] at g2
        have hla := laidQ_lt hr.1.1 m 0
        refine xcM (G := G) g3 (m_laid d hr.1 (set := m) (over := 0) (by omega) (by decide)) ?_
        refine xwp_go g1 [] 100 _ _ _ _ ?_
        refine xcallR (G := G) g3 [] (m_bits (d + 2) [] hla) ?_
        have hb := pop_le (laidQ S.1 m 0)
        generalize pop (laidQ S.1 m 0) = b at g2 hb
        have p10 : ∀ i, i ≤ 16 → 10 ^ i < 2 ^ 63 := fun i hi => Nat.lt_of_le_of_lt (Nat.pow_le_pow_right (by decide) hi) (by decide)
        have pt : ∀ i, i ≤ 16 → (10 - tn) ^ i < 2 ^ 63 := fun i hi => Nat.lt_of_le_of_lt (Nat.pow_le_pow_left (by omega) i) (p10 i hi)
        refine xwp_go g1 [68] 100 _ _ _ _ ?_
        generalize bndI (nI tn) 0 9 = why
        refine up (k := 16 - b) (P := fun i => ∀ x y z, x = nI (b + i) → y = lN ((10 - tn) ^ i) → z = lN (10 ^ i) → G 68 [some (.ref 0), some (.int (nI m)), some (.int (nI tn)), some (.int (nI pn)), some (.int why), some (.long y), none, some (.long z), none, some (.int x)] [] (eM a s)) ?_ ?_ 0 (Nat.zero_le _) _ _ _ rfl rfl rfl
        · intro x y z hx hy hz
          subst hx; subst hy; subst hz
          have hg : 0 < Nat.gcd ((10 - tn) ^ (16 - b)) (10 ^ (16 - b)) := Nat.gcd_pos_of_pos_right _ (Nat.pow_pos (by decide))
          have hgl : Nat.gcd ((10 - tn) ^ (16 - b)) (10 ^ (16 - b)) < 2 ^ 63 := Nat.lt_of_le_of_lt (Nat.gcd_le_right _ (Nat.pow_pos (by decide))) (p10 _ (by omega))
          refine xwp_go g1 [68] 100 _ _ _ _ ?_
          refine And.intro (fun _ => ?_) (fun h4 => absurd (by rw [show b + (16 - b) = 16 by omega]; decide) h4)
          have fin : ∀ y : Nat, y < 2 ^ 63 → y / Nat.gcd ((10 - tn) ^ (16 - b)) (10 ^ (16 - b)) = dustN tn pn (16 - b) → ∀ loc, G 117 loc [.long (lN (Nat.gcd ((10 - tn) ^ (16 - b)) (10 ^ (16 - b)))), .long (lN y)] (eM a s) := by
            intro y hy he loc
            refine xwp_go g1 [68] 100 _ _ _ _ ?_
            refine And.intro (fun h5 => ?_) ?_
            · rw [show (0 : Int64) = lN 0 from rfl, pk_lEQ hgl (by decide)] at h5
              omega
            · exact xrl' (G := G) g2 rfl ⟨by rw [pk_lDiv hy hg hgl, he], a, s, hr, rfl⟩
          refine And.intro (fun h4 => ?_) (fun h4 => ?_) <;> rw [show (0 : Int32) = nI 0 from rfl, nI_eq (by omega) (by decide)] at h4
          · refine xcall (G := G) g3 [] (m_divisor (d + 2) [] (pt (16 - b) (by omega)) (p10 (16 - b) (by omega))) (fun v wc' hp _ => ?_)
            obtain ⟨rfl, rfl⟩ := hp
            exact fin (10 ^ (16 - b)) (p10 _ (by omega)) (by unfold dustN; rw [if_neg h4]) _
          · refine xcall (G := G) g3 [] (m_divisor (d + 2) [] (pt (16 - b) (by omega)) (p10 (16 - b) (by omega))) (fun v wc' hp _ => ?_)
            obtain ⟨rfl, rfl⟩ := hp
            exact fin ((10 - tn) ^ (16 - b)) (pt _ (by omega)) (by unfold dustN; rw [if_pos h4]) _
        · intro i hi ih x y z hx hy hz
          subst hx; subst hy; subst hz
          refine xwp_go g1 [68] 100 _ _ _ _ ?_
          refine And.intro (fun h4 => absurd h4 (nI_ge (b := 16) (by omega) (by decide))) (fun _ => ?_)
          refine ih _ _ _ (by rw [nI_1]; rfl) ?_ ?_
          · rw [show (10 : Int32) = nI 10 from rfl, pk_sub (by omega), nI_l (by omega), lN_mul, Nat.pow_succ]
          · rw [show (10 : Int64) = lN 10 from rfl, lN_mul, Nat.pow_succ]
      · rw [if_pos h2] at g2
        exact low (bnd_k h2).1 (bnd_k h2).2 rfl g2 rfl ⟨_, _, _, rfl⟩
    · rw [if_pos h1] at g2
      exact low (k := 2) (by decide) (by decide) (by decide) g2 rfl ⟨_, _, _, rfl⟩
  · rw [if_pos h] at g2
    exact low (k := 1) (by decide) (by decide) (by decide) g2 rfl ⟨_, _, _, rfl⟩
