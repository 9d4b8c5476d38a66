/-! the reference's round: goesFrom -/
abbrev ixC (m l z : Nat) : Nat := 1024 * m + 256 * l + z
def gfC (fr : Int32) (dn M : Nat) (sh st : Nat → Nat) (se : Nat) (C : Nat → Int32) (t k m l z : Nat) : Int32 := if (l < t ∨ (l = t ∧ z < k)) ∧ dn.testBit l = false ∧ m = dn ||| 2 ^ l ∧ z < M ∧ sh z = st l then lowI (C (ixC m l z)) (fr + nI (pop (se ^^^ z))) else C (ixC m l z)
theorem gfC_eq {fr : Int32} {dn M : Nat} {sh st : Nat → Nat} {se : Nat} {C : Nat → Int32} {t k t' k' m l z : Nat} (h : dn.testBit l = false → m = dn ||| 2 ^ l → z < M → sh z = st l → ((l < t ∨ (l = t ∧ z < k)) ↔ (l < t' ∨ (l = t' ∧ z < k')))) : gfC fr dn M sh st se C t k m l z = gfC fr dn M sh st se C t' k' m l z := by
  unfold gfC
  by_cases c : dn.testBit l = false ∧ m = dn ||| 2 ^ l ∧ z < M ∧ sh z = st l
  · have hh := h c.1 c.2.1 c.2.2.1 c.2.2.2
    by_cases e : (l < t ∨ (l = t ∧ z < k))
    · rw [if_pos ⟨e, c⟩, if_pos ⟨hh.mp e, c⟩]
    · rw [if_neg (fun z => e z.1), if_neg (fun z => e (hh.mpr z.1))]
  · rw [if_neg (fun z => c z.2), if_neg (fun z => c z.2)]
theorem m_goesFrom (d : Nat) {n : Nat} (hn : n ≤ 8) {a : Nat → Nat → Int32} {s : Nat → Int32} (hs0 : s 0 = nI n) {sh st : Nat → Nat} {c dn la se : Nat} (hc : c ≤ 4) (hd : dn < 16) (hla : la < 4) (hse : se < 256) (h13 : ∀ m, m < 2 ^ n → a 13 m = nI (sh m) ∧ sh m < 65536) (h14 : ∀ t, t < c → a 14 t = nI (st t) ∧ st t < 65536) : xCt xMs (d + 2) nX6_goesFrom [.ref 0, .int (nI dn), .int (nI la), .int (nI se), .int (nI c)] (eM a s) (fun v w => v = none ∧ ∃ C', (∀ m l z, m < 16 → l < 4 → z < 256 → C' (ixC m l z) = if a 12 (ixC dn la se) < 0 then a 12 (ixC m l z) else gfC (a 12 (ixC dn la se)) dn (2 ^ n) sh st se (a 12) c 0 m l z) ∧ w = eM (aU a 12 C') s) := by
  have hM : 2 ^ n ≤ 2 ^ 8 := Nat.pow_le_pow_right (by decide) hn
  have ep : (1 : Int32) <<< (s 0 &&& 31) = nI (2 ^ n) := by rw [hs0]; exact nI_pow (by omega)
  refine xV (M := mX6_goesFrom) rfl rfl rfl rfl rfl pX6_goesFrom rfl (fun G g1 g2 g3 => ?_)
  refine xwp_go g1 [] 100 _ _ _ _ ?_
  refine xcallR (G := G) g3 [] (m_placeOf d [] (a := dn) (b := la) (c := se)) ?_
  have cl : (nI (1024 * dn + 256 * la + se)).toNatClampNeg = ixC dn la se := nI_clamp (by omega)
  refine xwp_go g1 [16] 100 _ _ _ _ ?_
  refine And.intro (vp_in_nI (by omega) (by decide)) ?_
  show G 16 [some (.ref 0), some (.int (nI dn)), some (.int (nI la)), some (.int (nI se)), some (.int (nI c)), some (.int (a 12 (nI (1024 * dn + 256 * la + se)).toNatClampNeg)), some (.int 0), none] [] (eM a s)
  rw [cl]
  generalize hfr : a 12 (ixC dn la se) = fr at g2
  by_cases hneg : fr < 0
  · refine xwp_go g1 [] 100 _ _ _ _ ?_
    refine And.intro (fun _ => ?_) (fun _ => And.intro (fun _ => ?_) (fun h => absurd hneg h))
    · exact xrv' (G := G) g2 rfl ⟨rfl, a 12, fun m l z _ _ _ => by rw [if_pos hneg], rfl⟩
    · exact xrv' (G := G) g2 rfl ⟨rfl, a 12, fun m l z _ _ _ => by rw [if_pos hneg], rfl⟩
  · refine up (k := c) (P := fun t => ∀ x C' z7, x = nI t → (∀ m l z, m < 16 → l < 4 → z < 256 → C' (ixC m l z) = gfC fr dn (2 ^ n) sh st se (a 12) t 0 m l z) → G 16 [some (.ref 0), some (.int (nI dn)), some (.int (nI la)), some (.int (nI se)), some (.int (nI c)), some (.int fr), some (.int x), z7] [] (eM (aU a 12 C') s)) ?_ ?_ 0 (Nat.zero_le _) _ (a 12) _ rfl (fun m l z _ _ _ => ?_)
    · intro x C' z7 hx hC
      subst hx
      refine xwp_go g1 [] 100 _ _ _ _ ?_
      refine And.intro (fun _ => ?_) (fun h => absurd (nI_le (Nat.le_refl _) (by omega)) h)
      exact xrv' (G := G) g2 rfl ⟨rfl, C', fun m l z h1 h2 h3 => by rw [if_neg hneg]; exact hC m l z h1 h2 h3, rfl⟩
    · intro t ht ih x C' z7 hx hC
      subst hx
      refine xwp_go g1 [16, 44] 100 _ _ _ _ ?_
      refine And.intro (fun h => absurd h (nI_ge ht (by omega))) (fun _ => ?_)
      refine And.intro (fun h => absurd h hneg) (fun _ => ?_)
      refine And.intro (fun h => ?_) (fun h => ?_) <;> rw [nI_bit1 (by omega) (by omega)] at h
      · have hb : dn.testBit t = false := by simpa using h
        refine up (k := 2 ^ n) (P := fun k => ∀ x C', x = nI k → (∀ m l z, m < 16 → l < 4 → z < 256 → C' (ixC m l z) = gfC fr dn (2 ^ n) sh st se (a 12) t k m l z) → G 44 [some (.ref 0), some (.int (nI dn)), some (.int (nI la)), some (.int (nI se)), some (.int (nI c)), some (.int fr), some (.int (nI t)), some (.int x)] [] (eM (aU a 12 C') s)) ?_ ?_ 0 (Nat.zero_le _) _ C' rfl hC
        · intro x C' hx hC
          subst hx
          refine xwp_go g1 [16, 44] 100 _ _ _ _ ?_
          refine And.intro (fun _ => ?_) (fun h => ?_)
          · refine ih _ C' _ (nI_1 t) (fun m l z h1 h2 h3 => ?_)
            rw [hC m l z h1 h2 h3]
            exact gfC_eq (fun _ _ hz _ => by omega)
          · rw [ep] at h
            exact absurd (nI_le (Nat.le_refl _) (by omega)) h
        · intro k hk ihk x C' hx hC
          subst hx
          obtain ⟨s1, s2⟩ := h13 k hk
          obtain ⟨t1, t2⟩ := h14 t ht
          have hm16 : dn ||| 2 ^ t < 16 := Nat.or_lt_two_pow (n := 4) hd (Nat.pow_lt_pow_right (by decide) (by omega))
          refine xwp_go g1 [16, 44] 100 _ _ _ _ ?_
          refine And.intro (fun h => ?_) (fun _ => ?_)
          · rw [ep] at h
            exact absurd h (nI_ge hk (by omega))
          refine And.intro (vp_in_nI (by omega) (by decide)) (And.intro (vp_in_nI (by omega) (by decide)) ?_)
          refine And.intro (fun h => ?_) (fun h => ?_)
          · have h : ¬ a 13 (nI k).toNatClampNeg = a 14 (nI t).toNatClampNeg := h
            rw [nI_clamp (by omega), nI_clamp (by omega), s1, t1, nI_eq (by omega) (by omega)] at h
            refine ihk _ C' (nI_1 k) (fun m l z h1 h2 h3 => ?_)
            rw [hC m l z h1 h2 h3]
            refine gfC_eq (fun _ _ _ hst => ?_)
            by_cases e : l = t ∧ z = k
            · rw [e.1, e.2] at hst; exact absurd hst h
            · omega
          · have h : a 13 (nI k).toNatClampNeg = a 14 (nI t).toNatClampNeg := h
            rw [nI_clamp (by omega), nI_clamp (by omega), s1, t1, nI_eq (by omega) (by omega)] at h
            have e1 : nI dn ||| (1 : Int32) <<< (nI t &&& 31) = nI (dn ||| 2 ^ t) := by rw [nI_pow (by omega), fa_or]
            refine xcallR (G := G) g3 [] (as := [.int (nI dn ||| (1 : Int32) <<< (nI t &&& 31)), .int (nI t), .int (nI k)]) (by rw [e1]; exact m_placeOf d [] (a := dn ||| 2 ^ t) (b := t) (c := k)) ?_
            refine xwp_go g1 [16, 44] 100 _ _ _ _ ?_
            have hx : se ^^^ k < 65536 := Nat.xor_lt_two_pow (n := 16) (by omega) (by omega)
            refine xcallR (G := G) g3 [] (ag1 (fb_xorI se k) (m_bits d [] hx)) ?_
            refine xwp_go g1 [16, 44] 100 _ _ _ _ ?_
            refine xcMP (G := G) g3 (m_lowers d (aU a 12 C') s (x := ixC (dn ||| 2 ^ t) t k) (show 1024 * (dn ||| 2 ^ t) + 256 * t + k < 16384 by omega) (fr + nI (pop (se ^^^ k)))) (fun v w hp => ⟨_, _, hp.2.choose_spec.2⟩) (fun v a' s' hp => ?_)
            obtain ⟨rfl, f, hf, e⟩ := hp
            rw [e]
            show G 99 [some (.ref 0), some (.int (nI dn)), some (.int (nI la)), some (.int (nI se)), some (.int (nI c)), some (.int fr), some (.int (nI t)), some (.int (nI k))] [] (eM (aU a 12 f) s)
            refine xwp_go g1 [16, 44] 100 _ _ _ _ ?_
            refine ihk _ f (nI_1 k) (fun m l z h1 h2 h3 => ?_)
            have hf := hf (ixC m l z)
            by_cases e : m = dn ||| 2 ^ t ∧ l = t ∧ z = k
            · obtain ⟨rfl, rfl, rfl⟩ := e
              rw [if_pos rfl] at hf
              rw [hf]
              show lowI (C' (ixC (dn ||| 2 ^ l) l z)) _ = _
              rw [hC _ _ _ h1 h2 h3]
              unfold gfC
              rw [if_neg (by omega), if_pos ⟨by omega, hb, rfl, hk, h⟩]
            · have hne : ¬ ixC m l z = ixC (dn ||| 2 ^ t) t k := by
                show ¬ 1024 * m + 256 * l + z = 1024 * (dn ||| 2 ^ t) + 256 * t + k
                omega
              rw [if_neg hne] at hf
              rw [hf]
              show C' (ixC m l z) = _
              rw [hC m l z h1 h2 h3]
              refine gfC_eq (fun _ hm _ _ => ?_)
              by_cases e2 : l = t ∧ z = k
              · exact absurd ⟨by rw [hm, e2.1], e2⟩ e
              · omega
      · have hb : dn.testBit t = true := by simpa using h
        refine ih _ C' _ (nI_1 t) (fun m l z h1 h2 h3 => ?_)
        rw [hC m l z h1 h2 h3]
        refine gfC_eq (fun hf _ _ _ => ?_)
        by_cases e : l = t
        · rw [e, hb] at hf; exact absurd hf (by decide)
        · omega
    · unfold gfC
      rw [if_neg (by omega)]
