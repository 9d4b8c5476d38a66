/-! the reference's round -/
abbrev TTq (q : LQ) : Nat → Nat → Nat → Nat → Prop := TT (2 ^ q 6 0) (stopC q) (fun m => laidQ q m 0) (stopAt q)
abbrev AAq (q : LQ) : Nat → Nat → Nat → Nat → Nat → Nat → Prop := AA (2 ^ q 6 0) (stopC q) (fun m => laidQ q m 0) (stopAt q)
def endK (q : LQ) (i k : Nat) : Prop := ∃ l z, 256 * l + z < i ∧ TTq q (2 ^ stopC q - 1) l z k
theorem mask_b {q : LQ} (h4 : stopC q ≤ 4) {m l z k : Nat} (h : TTq q m l z k) : k ≤ 1000 := by
  obtain ⟨h1, h2, -, -, -⟩ := TT_b h
  have : 2 ^ stopC q ≤ 2 ^ 4 := Nat.pow_le_pow_right (by decide) h4
  omega
theorem m_round (d : Nat) {S : SG} {a : Nat → Nat → Int32} {s : Nat → Int32} (hr : relM S a s) : xCt xMs (d + 5) nX6_round [.ref 0] (eM a s) (fun v w => ∃ r, v = some (.int r) ∧ ((stopC S.1 < 1 ∨ 4 < stopC S.1) → r = -9) ∧ (¬ (stopC S.1 < 1 ∨ 4 < stopC S.1) → isMn r (endK S.1 1024)) ∧ ∃ a', relM S a' s ∧ w = eM a' s) := by
  have h8 := hr.1.1.1
  have h6 := hr.1.1.2.1
  have hl := lt256 hr.1.1
  have h0 := hr.1.2.2.2.1
  have hc6 : stopC S.1 ≤ 6 := Nat.le_trans (stops_le S.1 (S.1 6 1)) h6
  have ep : (1 : Int32) <<< (s 0 &&& 31) = nI (2 ^ S.1 6 0) := by rw [h0]; exact nI_pow (by omega)
  refine xV (M := mX6_round) rfl rfl rfl rfl rfl pX6_round rfl (fun G g1 g2 g3 => ?_)
  refine xwp_go g1 [] 100 _ _ _ _ ?_
  refine xcMP (G := G) g3 (m_findAsked d hr.1) (fun v w hp => ⟨_, _, hp.2.choose_spec.choose_spec.2.2⟩) (fun v a' s' hp => ?_)
  obtain ⟨rfl, f13, f14, k13, k14, e⟩ := hp
  rw [e]
  have hR : ∀ C, relM S (aU (aU (aU a 13 f13) 14 f14) 12 C) s := fun C => relM_t hr (fun r h => by rw [aU_ne (by omega), aU_ne (by omega), aU_ne (by omega)])
  have h13 : ∀ C m, m < 2 ^ S.1 6 0 → aU (aU (aU a 13 f13) 14 f14) 12 C 13 m = nI (laidQ S.1 m 0) ∧ laidQ S.1 m 0 < 65536 := fun C m hm => ⟨k13 m hm, laidQ_lt hr.1.1 m 0⟩
  have h14 : ∀ C t, t < stopC S.1 → aU (aU (aU a 13 f13) 14 f14) 12 C 14 t = nI (stopAt S.1 t) ∧ stopAt S.1 t < 65536 := fun C t ht => ⟨k14 t ht, stops_lt hr.1.1 (S.1 6 1) (Nat.le_refl _) _ (gA_mem ht)⟩
  have leave : (stopC S.1 < 1 ∨ 4 < stopC S.1) → ∀ loc, G 14 loc [] (eM (aU (aU a 13 f13) 14 f14) s) := by
    intro h loc
    refine xwp_go g1 [] 100 _ _ _ _ ?_
    exact xri' (G := G) g2 rfl ⟨_, rfl, fun _ => rfl, fun z => absurd h z, _, relM_t hr (fun r h => by rw [aU_ne (by omega), aU_ne (by omega)]), rfl⟩
  generalize aU (aU a 13 f13) 14 f14 = b at hR h13 h14 leave
  refine xwp_go g1 [14, 19] 100 _ _ _ _ ?_
  refine And.intro (fun h => ?_) (fun h => ?_) <;> rw [show (0 : Int32) = nI 0 from rfl, nI_eq (by omega) (by decide)] at h
  · exact leave (Or.inl (by omega)) _
  refine And.intro (fun h4 => ?_) (fun h4 => ?_) <;> rw [show (4 : Int32) = nI 4 from rfl, nI_leI (by omega) (by decide)] at h4
  rotate_left
  · exact leave (Or.inr (by omega)) _
  have hpc : 2 ^ stopC S.1 ≤ 2 ^ 4 := Nat.pow_le_pow_right (by decide) h4
  have hpos := Nat.two_pow_pos (stopC S.1)
  have hp1 : 2 ≤ 2 ^ stopC S.1 := Nat.pow_le_pow_right (n := 2) (i := 1) (by decide) (by omega)
  have bT : ∀ {m l z k : Nat}, TTq S.1 m l z k → k ≤ 1000 := fun h => mask_b h4 h
  have third : ∀ C z3 z4 z5, (∀ m l z, m < 16 → l < 4 → z < 256 → isMn (C (ixC m l z)) (AAq S.1 1 0 m l z)) → G 102 [some (.ref 0), some (.int (nI (stopC S.1))), some (.int (nI (stopC S.1))), z3, z4, z5] [] (eM (aU b 12 C) s) := by
    intro C z3 z4 z5 hC
    have eall : (1 : Int32) <<< (nI (stopC S.1) &&& 31) - 1 = nI (2 ^ stopC S.1 - 1) := by rw [nI_pow (by omega), show (1 : Int32) = nI 1 from rfl, pk_sub hpos]
    refine xwp_go g1 [114] 100 _ _ _ _ ?_
    show G 114 [some (.ref 0), some (.int (nI (stopC S.1))), some (.int ((1 : Int32) <<< (nI (stopC S.1) &&& 31) - 1)), some (.int (-9)), some (.int 1), z5] [] (eM (aU b 12 C) s)
    rw [eall]
    refine up (k := 2 ^ stopC S.1 - 1) (P := fun j => ∀ x y C z5, x = nI (j + 1) → (j < 2 ^ stopC S.1 - 1 → y = -9 ∧ ∀ m l z, m < 16 → l < 4 → z < 256 → isMn (C (ixC m l z)) (AAq S.1 (j + 1) 0 m l z)) → (j = 2 ^ stopC S.1 - 1 → isMn y (endK S.1 1024)) → G 114 [some (.ref 0), some (.int (nI (stopC S.1))), some (.int (nI (2 ^ stopC S.1 - 1))), some (.int y), some (.int x), z5] [] (eM (aU b 12 C) s)) ?_ ?_ 0 (Nat.zero_le _) _ _ C _ rfl (fun _ => ⟨rfl, hC⟩) (fun h => by omega)
    · intro x y C z5 hx _ hy
      subst hx
      refine xwp_go g1 [114] 100 _ _ _ _ ?_
      refine And.intro (fun _ => ?_) (fun h => absurd (nI_lt (by omega) (by omega)) h)
      exact xri' (G := G) g2 rfl ⟨_, rfl, fun z => by omega, fun _ => hy rfl, _, hR C, rfl⟩
    · intro j hj ih x y C z5 hx hin _
      subst hx
      obtain ⟨rfl, hC⟩ := hin hj
      refine xwp_go g1 [114, 123] 100 _ _ _ _ ?_
      refine And.intro (fun h => absurd h (nI_nlt (by omega) (by omega))) (fun _ => ?_)
      refine up (k := 1024) (P := fun i => ∀ x y C, x = nI i → (j + 1 < 2 ^ stopC S.1 - 1 → y = -9 ∧ ∀ m l z, m < 16 → l < 4 → z < 256 → isMn (C (ixC m l z)) (AAq S.1 (j + 1) i m l z)) → (j + 1 = 2 ^ stopC S.1 - 1 → isMn y (endK S.1 i) ∧ ∀ l z, l < 4 → z < 256 → isMn (C (ixC (j + 1) l z)) (TTq S.1 (j + 1) l z)) → G 123 [some (.ref 0), some (.int (nI (stopC S.1))), some (.int (nI (2 ^ stopC S.1 - 1))), some (.int y), some (.int (nI (j + 1))), some (.int x)] [] (eM (aU b 12 C) s)) ?_ ?_ 0 (Nat.zero_le _) _ _ C rfl (fun _ => ⟨rfl, hC⟩) (fun _ => ⟨Or.inl ⟨rfl, fun k hk => by obtain ⟨l, z, h, -⟩ := hk; omega⟩, fun l z h1 h2 => isMn_congr (hC (j + 1) l z (by omega) h1 h2) (fun k => ⟨AA_T, T_AA (Nat.le_refl _)⟩)⟩)
      · intro x y C hx q1 q2
        subst hx
        refine xwp_go g1 [114, 123] 100 _ _ _ _ ?_
        refine And.intro (fun _ => ?_) (fun h => absurd (by decide) h)
        refine ih _ _ C _ (nI_1 _) (fun hlt => ?_) (fun he => (q2 he).1)
        obtain ⟨e, hC⟩ := q1 hlt
        refine ⟨e, fun m l z h1 h2 h3 => isMn_congr (hC m l z h1 h2 h3) (fun k => ?_)⟩
        constructor
        · rintro ⟨p1, p2, p3, p4⟩
          refine ⟨p1, p2, p3, ?_⟩
          rcases p4 with p4 | ⟨m', l', z', k', p5, p6, p7⟩
          · exact Or.inl p4
          · exact Or.inr ⟨m', l', z', k', p5, Or.inl (by omega), p7⟩
        · rintro ⟨p1, p2, p3, p4⟩
          refine ⟨p1, p2, p3, ?_⟩
          rcases p4 with p4 | ⟨m', l', z', k', p5, p6, p7⟩
          · exact Or.inl p4
          · have := TT_b p5
            exact Or.inr ⟨m', l', z', k', p5, by omega, p7⟩
      · intro i hi ihi x y C hx q1 q2
        subst hx
        refine xwp_go g1 [114, 123, 213] 100 _ _ _ _ ?_
        refine And.intro (fun h => absurd h (nI_ge (b := 1024) hi (by decide))) (fun _ => ?_)
        have hdec : 256 * (i / 256) + i % 256 = i := by omega
        refine And.intro (fun h => ?_) (fun h => ?_) <;> rw [nI_leI (by omega) (by omega)] at h
        · -- the last mask
          obtain ⟨hy, hT⟩ := q2 (by omega)
          have e1 : (1024 : Int32) * nI (j + 1) + nI i = nI (1024 * (j + 1) + i) := by rw [show (1024 : Int32) = nI 1024 from rfl, pk_mul, nI_add]
          have hin : vp_in ((1024 : Int32) * nI (j + 1) + nI i) 16384 := by rw [e1]; exact vp_in_nI (by omega) (by decide)
          have ev : C ((1024 : Int32) * nI (j + 1) + nI i).toNatClampNeg = C (ixC (j + 1) (i / 256) (i % 256)) := by
            rw [e1, nI_clamp (by omega)]
            congr 1
            show 1024 * (j + 1) + i = 1024 * (j + 1) + 256 * (i / 256) + i % 256
            omega
          have hV := hT (i / 256) (i % 256) (by omega) (by omega)
          have split : ∀ k, endK S.1 (i + 1) k ↔ endK S.1 i k ∨ TTq S.1 (j + 1) (i / 256) (i % 256) k := by
            intro k
            have ej : 2 ^ stopC S.1 - 1 = j + 1 := by omega
            constructor
            · rintro ⟨l, z, g1, g2⟩
              have hb := TT_b g2
              by_cases e : 256 * l + z = i
              · rw [ej] at g2
                refine Or.inr ?_
                rw [show i / 256 = l by omega, show i % 256 = z by omega]
                exact g2
              · exact Or.inl ⟨l, z, by omega, g2⟩
            · rintro (⟨l, z, g1, g2⟩ | g)
              · exact ⟨l, z, by omega, g2⟩
              · exact ⟨i / 256, i % 256, by omega, by rw [ej]; exact g⟩
          have fin : ∀ y', isMn y' (endK S.1 (i + 1)) → G 213 [some (.ref 0), some (.int (nI (stopC S.1))), some (.int (nI (2 ^ stopC S.1 - 1))), some (.int y'), some (.int (nI (j + 1))), some (.int (nI i))] [] (eM (aU b 12 C) s) := by
            intro y' hy'
            refine xwp_go g1 [114, 123] 100 _ _ _ _ ?_
            exact ihi _ _ C (nI_1 i) (fun hh => by omega) (fun _ => ⟨hy', hT⟩)
          have bE : ∀ k, endK S.1 i k → k ≤ 1000 := fun k hk => by obtain ⟨l, z, -, g⟩ := hk; exact bT g
          have comb : ¬ C (ixC (j + 1) (i / 256) (i % 256)) < 0 → isMn (lowI y (C (ixC (j + 1) (i / 256) (i % 256)))) (endK S.1 (i + 1)) := by
            intro hn
            have := isMn_low (w := 0) hy hV hn bE (fun k hk => bT hk) (by decide)
            rw [show nI 0 = (0 : Int32) from rfl, Int32.add_zero] at this
            refine isMn_congr this (fun k => ?_)
            rw [split]
            constructor
            · rintro (g | ⟨k', g, rfl⟩)
              · exact Or.inl g
              · exact Or.inr g
            · rintro (g | g)
              · exact Or.inl g
              · exact Or.inr ⟨k, g, rfl⟩
          refine And.intro hin ?_
          refine And.intro (fun hn => ?_) (fun hn => ?_)
          · have hn : C ((1024 : Int32) * nI (j + 1) + nI i).toNatClampNeg < 0 := hn
            rw [ev] at hn
            refine fin y (isMn_congr hy (fun k => ?_))
            rw [split]
            constructor
            · intro g; exact Or.inl g
            · rintro (g | g)
              · exact g
              · exact absurd g (isMn_none hV (fun k hk => bT hk) hn k)
          · have hn : ¬ C ((1024 : Int32) * nI (j + 1) + nI i).toNatClampNeg < 0 := hn
            rw [ev] at hn
            have hcomb := comb hn
            unfold lowI at hcomb
            refine And.intro (fun hy0 => ?_) (fun hy0 => ?_)
            · rw [if_pos hy0] at hcomb
              refine And.intro hin ?_
              refine fin _ ?_
              show isMn (C ((1024 : Int32) * nI (j + 1) + nI i).toNatClampNeg) _
              rw [ev]; exact hcomb
            · rw [if_neg hy0] at hcomb
              refine And.intro hin ?_
              refine And.intro (fun hc => ?_) (fun hc => ?_)
              · have hc : y ≤ C ((1024 : Int32) * nI (j + 1) + nI i).toNatClampNeg := hc
                rw [ev] at hc
                rw [if_pos hc] at hcomb
                exact fin _ hcomb
              · have hc : ¬ y ≤ C ((1024 : Int32) * nI (j + 1) + nI i).toNatClampNeg := hc
                rw [ev] at hc
                rw [if_neg hc] at hcomb
                refine And.intro hin ?_
                refine fin _ ?_
                show isMn (C ((1024 : Int32) * nI (j + 1) + nI i).toNatClampNeg) _
                rw [ev]; exact hcomb
        · -- going on
          obtain ⟨ey, hC⟩ := q1 (by omega)
          have e1 : nI i / 256 = nI (i / 256) := pk_div (d := 256) (by omega) (by decide) (by decide)
          have e2 : nI i - nI i / 256 * 256 = nI (i % 256) := pk_rem (d := 256) (by omega) (by decide) (by decide)
          refine And.intro (by decide) (And.intro (by decide) ?_)
          refine xcMP (G := G) g3 (agr4 rfl e1 e2 rfl (m_goesFrom (d + 2) h8 (a := aU b 12 C) h0 (sh := fun m => laidQ S.1 m 0) (st := stopAt S.1) (dn := j + 1) (la := i / 256) (se := i % 256) h4 (by omega) (by omega) (by omega) (h13 C) (h14 C))) (fun v w hp => ⟨_, _, hp.2.choose_spec.2⟩) (fun v a' s' hp => ?_)
          obtain ⟨rfl, C', hC', e⟩ := hp
          rw [e]
          show G 156 [some (.ref 0), some (.int (nI (stopC S.1))), some (.int (nI (2 ^ stopC S.1 - 1))), some (.int y), some (.int (nI (j + 1))), some (.int (nI i))] [] (eM (aU b 12 C') s)
          refine xwp_go g1 [114, 123] 100 _ _ _ _ ?_
          refine ihi _ _ C' (nI_1 i) (fun _ => ⟨ey, fun m l z h1 h2 h3 => ?_⟩) (fun hh => by omega)
          have hv : C' (ixC m l z) = if C (ixC (j + 1) (i / 256) (i % 256)) < 0 then C (ixC m l z) else gfC (C (ixC (j + 1) (i / 256) (i % 256))) (j + 1) (2 ^ S.1 6 0) (fun m => laidQ S.1 m 0) (stopAt S.1) (i % 256) C (stopC S.1) 0 m l z := hC' m l z h1 h2 h3
          have hF := isMn_congr (hC (j + 1) (i / 256) (i % 256) (by omega) (by omega) (by omega)) (L := TTq S.1 (j + 1) (i / 256) (i % 256)) (fun k => ⟨AA_T, T_AA (Nat.le_refl _)⟩)
          have hO := hC m l z h1 h2 h3
          rw [hv]
          have keep : ∀ k, AAq S.1 (j + 1) i m l z k → AAq S.1 (j + 1) (i + 1) m l z k := by
            rintro k ⟨p1, p2, p3, p4⟩
            refine ⟨p1, p2, p3, ?_⟩
            rcases p4 with p4 | ⟨m', l', z', k', p5, p6, p7⟩
            · exact Or.inl p4
            · exact Or.inr ⟨m', l', z', k', p5, by omega, p7⟩
          have more : ∀ k, AAq S.1 (j + 1) (i + 1) m l z k → AAq S.1 (j + 1) i m l z k ∨ (l < stopC S.1 ∧ (j + 1).testBit l = false ∧ m = (j + 1) ||| 2 ^ l ∧ z < 2 ^ S.1 6 0 ∧ laidQ S.1 z 0 = stopAt S.1 l ∧ ∃ k', TTq S.1 (j + 1) (i / 256) (i % 256) k' ∧ k = k' + pop (i % 256 ^^^ z)) := by
            rintro k ⟨p1, p2, p3, p4⟩
            rcases p4 with p4 | ⟨m', l', z', k', p5, p6, p7, p8, p9⟩
            · exact Or.inl ⟨p1, p2, p3, Or.inl p4⟩
            · by_cases c : m' < j + 1 ∨ (m' = j + 1 ∧ 256 * l' + z' < i)
              · exact Or.inl ⟨p1, p2, p3, Or.inr ⟨m', l', z', k', p5, c, p7, p8, p9⟩⟩
              · have hb := TT_b p5
                have em : m' = j + 1 := by omega
                have el : l' = i / 256 := by omega
                have ez : z' = i % 256 := by omega
                subst em; subst el; subst ez
                exact Or.inr ⟨p1, p7, p8, p2, p3, k', p5, p9⟩
          by_cases hneg : C (ixC (j + 1) (i / 256) (i % 256)) < 0
          · rw [if_pos hneg]
            refine isMn_congr hO (fun k => ⟨keep k, fun g => ?_⟩)
            rcases more k g with g | ⟨-, -, -, -, -, k', g, -⟩
            · exact g
            · exact absurd g (isMn_none hF (fun k hk => bT hk) hneg k')
          · rw [if_neg hneg]
            unfold gfC
            by_cases c : (l < stopC S.1 ∨ (l = stopC S.1 ∧ z < 0)) ∧ (j + 1).testBit l = false ∧ m = (j + 1) ||| 2 ^ l ∧ z < 2 ^ S.1 6 0 ∧ laidQ S.1 z 0 = stopAt S.1 l
            · rw [if_pos c]
              refine isMn_congr (isMn_low hO hF hneg (fun k hk => bT (AA_T hk)) (fun k hk => bT hk) (pop_le (i % 256 ^^^ z))) (fun k => ?_)
              constructor
              · rintro (g | ⟨k', g, rfl⟩)
                · exact keep k g
                · exact ⟨by omega, c.2.2.2.1, c.2.2.2.2, Or.inr ⟨j + 1, i / 256, i % 256, k', g, Or.inr ⟨rfl, by omega⟩, c.2.1, c.2.2.1, rfl⟩⟩
              · intro g
                rcases more k g with g | ⟨-, -, -, -, -, k', g, e⟩
                · exact Or.inl g
                · exact Or.inr ⟨k', g, e⟩
            · rw [if_neg c]
              refine isMn_congr hO (fun k => ⟨keep k, fun g => ?_⟩)
              rcases more k g with g | ⟨c1, c2, c3, c4, c5, -⟩
              · exact g
              · exact absurd ⟨Or.inl c1, c2, c3, c4, c5⟩ c
  have second : ∀ C z3 z4 z5, (∀ x, x < 16384 → C x = -9) → G 40 [some (.ref 0), some (.int (nI (stopC S.1))), some (.int (nI 16384)), z3, z4, z5] [] (eM (aU b 12 C) s) := by
    intro C z3 z4 z5 hC
    refine xwp_go g1 [42] 100 _ _ _ _ ?_
    refine up (k := stopC S.1) (P := fun t => ∀ x C z3, x = nI t → (∀ m l z, m < 16 → l < 4 → z < 256 → isMn (C (ixC m l z)) (fun k => (l < t ∨ (l = t ∧ z < 0)) ∧ z < 2 ^ S.1 6 0 ∧ laidQ S.1 z 0 = stopAt S.1 l ∧ m = 2 ^ l ∧ k = pop z)) → G 42 [some (.ref 0), some (.int (nI (stopC S.1))), some (.int x), z3, z4, z5] [] (eM (aU b 12 C) s)) ?_ ?_ 0 (Nat.zero_le _) _ C _ rfl (fun m l z h1 h2 h3 => Or.inl ⟨hC _ (show 1024 * m + 256 * l + z < 16384 by omega), fun k hk => by omega⟩)
    · intro x C z3 hx hC
      subst hx
      refine xwp_go g1 [42, 102] 100 _ _ _ _ ?_
      refine And.intro (fun _ => ?_) (fun h => absurd (nI_le (Nat.le_refl _) (by omega)) h)
      refine third C _ _ _ (fun m l z h1 h2 h3 => isMn_congr (hC m l z h1 h2 h3) (fun k => ?_))
      constructor
      · rintro ⟨g1, g2, g3, g4, g5⟩
        exact ⟨by omega, g2, g3, Or.inl ⟨g4, g5⟩⟩
      · rintro ⟨g1, g2, g3, g4⟩
        rcases g4 with g4 | ⟨m', l', z', k', g5, g6, -⟩
        · exact ⟨Or.inl g1, g2, g3, g4⟩
        · have := TT_b g5
          omega
    · intro t ht ih x C z3 hx hC
      subst hx
      refine xwp_go g1 [42, 49] 100 _ _ _ _ ?_
      refine And.intro (fun h => absurd h (nI_ge ht (by omega))) (fun _ => ?_)
      refine up (k := 2 ^ S.1 6 0) (P := fun i => ∀ x C, x = nI i → (∀ m l z, m < 16 → l < 4 → z < 256 → isMn (C (ixC m l z)) (fun k => (l < t ∨ (l = t ∧ z < i)) ∧ z < 2 ^ S.1 6 0 ∧ laidQ S.1 z 0 = stopAt S.1 l ∧ m = 2 ^ l ∧ k = pop z)) → G 49 [some (.ref 0), some (.int (nI (stopC S.1))), some (.int (nI t)), some (.int x), z4, z5] [] (eM (aU b 12 C) s)) ?_ ?_ 0 (Nat.zero_le _) _ C rfl hC
      · intro x C hx hC
        subst hx
        refine xwp_go g1 [42, 49] 100 _ _ _ _ ?_
        refine And.intro (fun _ => ?_) (fun h => ?_)
        · refine ih _ C _ (nI_1 t) (fun m l z h1 h2 h3 => isMn_congr (hC m l z h1 h2 h3) (fun k => ?_))
          constructor
          · rintro ⟨g1, g2⟩; exact ⟨by omega, g2⟩
          · rintro ⟨g1, g2⟩; exact ⟨by omega, g2⟩
        · rw [ep] at h
          exact absurd (nI_le (Nat.le_refl _) (by omega)) h
      · intro i hi ihi x C hx hC
        subst hx
        obtain ⟨s1, s2⟩ := h13 C i hi
        obtain ⟨t1, t2⟩ := h14 C t ht
        refine xwp_go g1 [42, 49] 100 _ _ _ _ ?_
        refine And.intro (fun h => ?_) (fun _ => ?_)
        · rw [ep] at h
          exact absurd h (nI_ge hi (by omega))
        refine And.intro (vp_in_nI (by omega) (by decide)) (And.intro (vp_in_nI (by omega) (by decide)) ?_)
        refine And.intro (fun h => ?_) (fun h => ?_) <;> rw [nI_clamp (by omega), nI_clamp (by omega), s1, t1, nI_eq (by omega) (by omega)] at h
        · refine ihi _ C (nI_1 i) (fun m l z h1 h2 h3 => isMn_congr (hC m l z h1 h2 h3) (fun k => ?_))
          constructor
          · rintro ⟨g1, g2⟩; exact ⟨by omega, g2⟩
          · rintro ⟨g1, g2, g3, g4⟩
            refine ⟨?_, g2, g3, g4⟩
            by_cases e : l = t ∧ z = i
            · rw [e.1, e.2] at g3; exact absurd g3 h
            · omega
        · have hpt : 2 ^ t < 2 ^ 4 := Nat.pow_lt_pow_right (by decide) (by omega)
          refine xcallR (G := G) g3 [] (as := [.int ((1 : Int32) <<< (nI t &&& 31)), .int (nI t), .int (nI i)]) (by rw [nI_pow (by omega)]; exact m_placeOf (d + 3) [] (a := 2 ^ t) (b := t) (c := i)) ?_
          refine xwp_go g1 [42, 49] 100 _ _ _ _ ?_
          refine xcallR (G := G) g3 [] (m_bits (d + 3) [] (p := i) (by omega)) ?_
          refine xwp_go g1 [42, 49] 100 _ _ _ _ ?_
          refine xcMP (G := G) g3 (m_lowers (d + 3) (aU b 12 C) s (x := ixC (2 ^ t) t i) (show 1024 * 2 ^ t + 256 * t + i < 16384 by omega) (nI (pop i))) (fun v w hp => ⟨_, _, hp.2.choose_spec.2⟩) (fun v a' s' hp => ?_)
          obtain ⟨rfl, f, hf, e⟩ := hp
          rw [e]
          show G 90 [some (.ref 0), some (.int (nI (stopC S.1))), some (.int (nI t)), some (.int (nI i)), z4, z5] [] (eM (aU b 12 f) s)
          refine xwp_go g1 [42, 49] 100 _ _ _ _ ?_
          refine ihi _ f (nI_1 i) (fun m l z h1 h2 h3 => ?_)
          have hf := hf (ixC m l z)
          by_cases e : m = 2 ^ t ∧ l = t ∧ z = i
          · obtain ⟨rfl, rfl, rfl⟩ := e
            rw [if_pos rfl] at hf
            rw [hf]
            show isMn (lowI (C (ixC (2 ^ l) l z)) (nI (pop z))) _
            rcases hC _ _ _ h1 h2 h3 with ⟨c1, -⟩ | ⟨k, -, ⟨g, -⟩, -⟩
            · rw [c1]
              refine Or.inr ⟨pop z, rfl, ⟨by omega, hi, h, rfl, rfl⟩, fun k' hk' => by omega⟩
            · omega
          · have hne : ¬ ixC m l z = ixC (2 ^ t) t i := by
              show ¬ 1024 * m + 256 * l + z = 1024 * 2 ^ t + 256 * t + i
              omega
            rw [if_neg hne] at hf
            rw [hf]
            refine isMn_congr (hC m l z h1 h2 h3) (fun k => ?_)
            constructor
            · rintro ⟨g1, g2⟩; exact ⟨by omega, g2⟩
            · rintro ⟨g1, g2, g3, g4, g5⟩
              refine ⟨?_, g2, g3, g4, g5⟩
              by_cases e2 : l = t ∧ z = i
              · rw [e2.1] at g4; exact absurd ⟨g4, e2⟩ e
              · omega
  refine up (k := 16384) (P := fun i => ∀ x C z3 z4 z5, x = nI i → (∀ y, y < i → C y = -9) → G 19 [some (.ref 0), some (.int (nI (stopC S.1))), some (.int x), z3, z4, z5] [] (eM (aU b 12 C) s)) ?_ ?_ 0 (Nat.zero_le _) _ (b 12) _ _ _ rfl (fun y hy => absurd hy (Nat.not_lt_zero y))
  · intro x C z3 z4 z5 hx hC
    subst hx
    refine xwp_go g1 [19, 40] 100 _ _ _ _ ?_
    exact And.intro (fun _ => second C _ _ _ hC) (fun h => absurd (by decide) h)
  · intro i hi ih x C z3 z4 z5 hx hC
    subst hx
    refine xwp_go g1 [19, 40] 100 _ _ _ _ ?_
    refine And.intro (fun h => absurd h (nI_ge (b := 16384) hi (by decide))) (fun _ => ?_)
    refine And.intro (vp_in_nI hi (by decide)) ?_
    refine ih _ (upd C (nI i).toNatClampNeg (-9)) _ _ _ (nI_1 i) (fun y hy => ?_)
    rw [nI_clamp (by omega), upd_at]
    split
    · rfl
    · exact hC y (by omega)
