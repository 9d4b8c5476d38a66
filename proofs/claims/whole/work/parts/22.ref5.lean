/-! gaps, nearest, who, dust: what they answer; the reference's -/
def spGaps (S : SG) (p w : Int32) : Int32 × SG := if inB w 0 1 = false then rfs S (-2) else if ¬ bndI p 0 65535 = 0 then rfs S (bndI p 0 65535) else (if w = 0 then nI (16 - pop p.toNatClampNeg) else nI (grpN 16 (notN p.toNatClampNeg)), S)
def spNearest (S : SG) (p w : Int32) : Int32 × SG := if inB w 0 1 = false then rfs S (-2) else if ¬ bndI p 0 65535 = 0 then rfs S (bndI p 0 65535) else
  (if (nearL S.1 p.toNatClampNeg (S.1 6 1)).1 = 0 then -9 else if w = 0 then nI ((nearL S.1 p.toNatClampNeg (S.1 6 1)).1 - 1) else nI (nearL S.1 p.toNatClampNeg (S.1 6 1)).2, S)
def whoL (q : LQ) (set p : Nat) : Nat → Nat × Nat
  | 0 => (0, 0)
  | i + 1 => if set.testBit i then ((if crackL (laidQ q (clr set i) 0) (onQ q i) p 16 = 0 then (whoL q set p i).1 else (whoL q set p i).1 ||| 2 ^ i), (whoL q set p i).2 + crackL (laidQ q (clr set i) 0) (onQ q i) p 16) else whoL q set p i
def spWho (S : SG) (x p w : Int32) : Int32 × SG := if ¬ askI (S.1 6 0) x p w 1 = 0 then rfs S (askI (S.1 6 0) x p w 1) else
  (if laidQ S.1 x.toNatClampNeg 0 = p.toNatClampNeg then 0 else if w = 0 then nI (whoL S.1 x.toNatClampNeg p.toNatClampNeg (S.1 6 0)).1 else nI (whoL S.1 x.toNatClampNeg p.toNatClampNeg (S.1 6 0)).2, S)
theorem m_gaps (d : Nat) {S : SG} {a : Nat → Nat → Int32} {s : Nat → Int32} (hr : relM S a s) (p w : Int32) : xCt xMs (d + 2) nX6_gaps [.ref 0, .int p, .int w] (eM a s) (pMs (spGaps S p w)) := by
  refine xV (M := mX6_gaps) rfl rfl rfl rfl rfl pX6_gaps rfl (fun G g1 g2 g3 => ?_)
  unfold spGaps at g2
  refine xwp_go g1 [] 100 _ _ _ _ ?_
  refine xcallR (G := G) g3 [] (m_isIn d [] w 0 1) ?_
  refine xwp_go g1 [] 100 _ _ _ _ ?_
  refine And.intro (fun h => ?_) (fun h => ?_) <;> rw [bI_0] at h
  · rw [if_neg h] at g2
    refine xcallR (G := G) g3 [] (m_bound d [] p 0 65535) ?_
    refine xwp_go g1 [] 100 _ _ _ _ ?_
    refine And.intro (fun h' => ?_) (fun h' => ?_)
    · rw [if_neg (fun z => z h')] at g2
      obtain ⟨m, -, hm, rfl⟩ := bnd_0 (l := 0) (m := 65535) (by decide) (by decide) h'
      rw [nI_clamp (by omega)] at g2
      refine And.intro (fun h2 => ?_) (fun h2 => ?_)
      · rw [if_neg h2] at g2
        have e : (65535 : Int32) &&& (nI m ^^^ (-1)) = nI (notN m) := by rw [show (65535 : Int32) = nI 65535 from rfl, nI_andn]; rfl
        refine xcallR (G := G) g3 [] (ag1 e (m_groups d [] (notN_lt m))) ?_
        refine xwp_go g1 [] 100 _ _ _ _ ?_
        exact xri' (G := G) g2 rfl ⟨rfl, a, s, hr, rfl⟩
      · rw [if_pos h2] at g2
        refine xcallR (G := G) g3 [] (m_bits d [] (p := m) (by omega)) ?_
        refine xwp_go g1 [] 100 _ _ _ _ ?_
        exact xri' (G := G) g2 rfl ⟨by rw [show (16 : Int32) = nI 16 from rfl, pk_sub (pop_le m)], a, s, hr, rfl⟩
    · rw [if_pos h'] at g2
      refine xcMW (G := G) g3 (m_no d a s (bnd_k h').1 (bnd_k h').2) ?_
      refine xwp_go g1 [] 100 _ _ _ _ ?_
      exact xri' (G := G) g2 rfl ⟨rfl, _, s, relM_no hr, rfl⟩
  · rw [if_pos h] at g2
    refine xcMW (G := G) g3 (m_no d a s (why := -2) (k := 2) (by decide) (by decide)) ?_
    refine xwp_go g1 [] 100 _ _ _ _ ?_
    exact xri' (G := G) g2 rfl ⟨rfl, _, s, relM_no (k := 2) hr, rfl⟩
theorem m_nearest (d : Nat) {S : SG} {a : Nat → Nat → Int32} {s : Nat → Int32} (hr : relM S a s) (p w : Int32) : xCt xMs (d + 2) nX6_nearest [.ref 0, .int p, .int w] (eM a s) (pMs (spNearest S p w)) := by
  obtain ⟨hok, hA, hW, h0, h1, h2⟩ := hr.1
  have h6 := hok.2.1
  refine xV (M := mX6_nearest) rfl rfl rfl rfl rfl pX6_nearest rfl (fun G g1 g2 g3 => ?_)
  unfold spNearest at g2
  refine xwp_go g1 [] 100 _ _ _ _ ?_
  refine xcallR (G := G) g3 [] (m_isIn d [] w 0 1) ?_
  refine xwp_go g1 [] 100 _ _ _ _ ?_
  refine And.intro (fun h => ?_) (fun h => ?_) <;> rw [bI_0] at h
  · rw [if_neg h] at g2
    refine xcallR (G := G) g3 [] (m_bound d [] p 0 65535) ?_
    refine xwp_go g1 [45] 100 _ _ _ _ ?_
    refine And.intro (fun h' => ?_) (fun h' => ?_)
    · rw [if_neg (fun z => z h')] at g2
      obtain ⟨m, -, hm, rfl⟩ := bnd_0 (l := 0) (m := 65535) (by decide) (by decide) h'
      rw [nI_clamp (by omega)] at g2
      refine up (k := S.1 6 1) (P := fun i => ∀ x y z u, x = nI i → (y = if (nearL S.1 m i).1 = 0 then -9 else nI ((nearL S.1 m i).1 - 1)) → (z = if (nearL S.1 m i).1 = 0 then -9 else nI (nearL S.1 m i).2) → G 45 [some (.ref 0), some (.int (nI m)), some (.int w), some (.int (bndI (nI m) 0 65535)), some (.int y), some (.int z), some (.int x), u] [] (eM a s)) ?_ ?_ 0 (Nat.zero_le _) _ _ _ _ rfl rfl rfl
      · intro x y z u hx hy hz
        subst hx
        refine xwp_go g1 [45] 100 _ _ _ _ ?_
        refine And.intro (fun h3 => ?_) (fun h3 => ?_)
        · refine And.intro (fun h4 => ?_) (fun h4 => ?_)
          · rw [if_neg h4] at g2
            exact xri' (G := G) g2 rfl ⟨by rw [hz], a, s, hr, rfl⟩
          · rw [if_pos h4] at g2
            exact xri' (G := G) g2 rfl ⟨by rw [hy], a, s, hr, rfl⟩
        · rw [h1] at h3
          exact absurd (nI_le (Nat.le_refl _) (by omega)) h3
      · intro i hi ih x y z u hx hy hz
        subst hx
        have hb := hok.2.2.2.2.2 i hi
        have hx : S.1 5 i ^^^ m < 65536 := Nat.xor_lt_two_pow (n := 16) hb (by omega)
        have l1 := pop_le (S.1 5 i ^^^ m)
        have l2 := nearL_le S.1 m i
        have es : nearL S.1 m (i + 1) = if pop (S.1 5 i ^^^ m) < (nearL S.1 m i).2 then (i + 1, pop (S.1 5 i ^^^ m)) else nearL S.1 m i := rfl
        have e0 : ∀ i, (nearL S.1 m i).1 = 0 → (nearL S.1 m i).2 = 17 := by
          intro i
          induction i with
          | zero => intro _; rfl
          | succ i ih =>
            intro hz
            have es : nearL S.1 m (i + 1) = if pop (S.1 5 i ^^^ m) < (nearL S.1 m i).2 then (i + 1, pop (S.1 5 i ^^^ m)) else nearL S.1 m i := rfl
            rw [es] at hz ⊢
            split at hz
            · exact absurd hz (Nat.succ_ne_zero _)
            · next hn => rw [if_neg hn]; exact ih hz
        refine xwp_go g1 [45] 100 _ _ _ _ ?_
        refine And.intro (fun h3 => ?_) (fun h3 => ?_)
        · rw [h1] at h3
          exact absurd h3 (nI_ge hi (by omega))
        · refine And.intro (vp_in_nI (by omega) (by decide)) ?_
          have e : a 5 (nI i).toNatClampNeg ^^^ nI m = nI (S.1 5 i ^^^ m) := by rw [nI_clamp (by omega), hW i hi, fb_xorI]
          refine xcallR (G := G) g3 [] (ag1 e (m_bits d [] hx)) ?_
          refine xwp_go g1 [45] 100 _ _ _ _ ?_
          refine And.intro (fun h4 => ?_) (fun h4 => ?_)
          · -- none yet
            have hk : (nearL S.1 m i).1 = 0 := Classical.byContradiction (fun hc => by
              rw [hy, if_neg hc] at h4
              exact absurd h4 (nI_pos (by omega)))
            have h17 := e0 i hk
            have et : nearL S.1 m (i + 1) = (i + 1, pop (S.1 5 i ^^^ m)) := by rw [es, if_pos (by omega)]
            refine ih _ _ _ _ (nI_1 i) ?_ ?_
            · rw [et]
              show _ = if i + 1 = 0 then -9 else nI (i + 1 - 1)
              rw [if_neg (Nat.succ_ne_zero i)]; rfl
            · rw [et]
              show _ = if i + 1 = 0 then -9 else nI (pop (S.1 5 i ^^^ m))
              rw [if_neg (Nat.succ_ne_zero i)]
          · have hk : ¬ (nearL S.1 m i).1 = 0 := fun hc => h4 (by rw [hy, if_pos hc]; decide)
            refine And.intro (fun h5 => ?_) (fun h5 => ?_) <;> rw [hz, if_neg hk, nI_ltI (by omega) (by omega)] at h5
            · have et : nearL S.1 m (i + 1) = (i + 1, pop (S.1 5 i ^^^ m)) := by rw [es, if_pos h5]
              refine ih _ _ _ _ (nI_1 i) ?_ ?_
              · rw [et]
                show _ = if i + 1 = 0 then -9 else nI (i + 1 - 1)
                rw [if_neg (Nat.succ_ne_zero i)]; rfl
              · rw [et]
                show _ = if i + 1 = 0 then -9 else nI (pop (S.1 5 i ^^^ m))
                rw [if_neg (Nat.succ_ne_zero i)]
            · exact ih _ _ _ _ (nI_1 i) (by rw [es, if_neg h5]; exact hy) (by rw [es, if_neg h5]; exact hz)
    · rw [if_pos h'] at g2
      refine xcMW (G := G) g3 (m_no d a s (bnd_k h').1 (bnd_k h').2) ?_
      refine xwp_go g1 [] 100 _ _ _ _ ?_
      exact xri' (G := G) g2 rfl ⟨rfl, _, s, relM_no hr, rfl⟩
  · rw [if_pos h] at g2
    refine xcMW (G := G) g3 (m_no d a s (why := -2) (k := 2) (by decide) (by decide)) ?_
    refine xwp_go g1 [] 100 _ _ _ _ ?_
    exact xri' (G := G) g2 rfl ⟨rfl, _, s, relM_no (k := 2) hr, rfl⟩
theorem m_who (d : Nat) {S : SG} {a : Nat → Nat → Int32} {s : Nat → Int32} (hr : relM S a s) (x p w : Int32) : xCt xMs (d + 4) nX6_who [.ref 0, .int x, .int p, .int w] (eM a s) (pMs (spWho S x p w)) := by
  have hl := lt256 hr.1.1
  have h0 := hr.1.2.2.2.1
  have h8 := hr.1.1.1
  refine xV (M := mX6_who) rfl rfl rfl rfl rfl pX6_who rfl (fun G g1 g2 g3 => ?_)
  unfold spWho at g2
  refine xwp_go g1 [] 100 _ _ _ _ ?_
  refine xcM (G := G) g3 (m_notAsked (d + 1) hr.1 x p w 1) ?_
  refine xwp_go g1 [31] 100 _ _ _ _ ?_
  refine And.intro (fun h => ?_) (fun h => ?_)
  · rw [if_neg (fun z => z h)] at g2
    generalize hwhy : askI (S.1 6 0) x p w 1 = why at *
    obtain ⟨⟨m, hm, rfl⟩, ⟨k, hk, rfl⟩, ⟨o, ho, rfl⟩⟩ := ask_0 (m := 1) (by decide) (hwhy.trans h)
    rw [nI_clamp (by omega), nI_clamp (by omega)] at g2
    have hla := laidQ_lt hr.1.1 m 0
    by_cases hsame : laidQ S.1 m 0 = o
    · rw [if_pos hsame] at g2
      refine xwp_go g1 [] 100 _ _ _ _ ?_
      refine And.intro (fun _ => ?_) (fun _ => ?_)
      · exact And.intro (fun _ => xri' (G := G) g2 rfl ⟨rfl, a, s, hr, rfl⟩) (fun _ => xri' (G := G) g2 rfl ⟨rfl, a, s, hr, rfl⟩)
      · refine xcM (G := G) g3 (m_laid d hr.1 (set := m) (over := 0) (by omega) (by decide)) ?_
        refine xwp_go g1 [] 100 _ _ _ _ ?_
        refine And.intro (fun _ => ?_) (fun h' => absurd (by rw [hsame]) h')
        exact And.intro (fun _ => xri' (G := G) g2 rfl ⟨rfl, a, s, hr, rfl⟩) (fun _ => xri' (G := G) g2 rfl ⟨rfl, a, s, hr, rfl⟩)
    · rw [if_neg hsame] at g2
      refine up (k := S.1 6 0) (P := fun i => ∀ x y z u8 u9 u10, x = nI i → y = nI (whoL S.1 m o i).1 → z = nI (whoL S.1 m o i).2 → G 31 [some (.ref 0), some (.int (nI m)), some (.int (nI o)), some (.int (nI k)), some (.int why), some (.int y), some (.int z), some (.int x), u8, u9, u10] [] (eM a s)) ?_ ?_ 0 (Nat.zero_le _) _ _ _ _ _ _ rfl rfl rfl
      · intro x y z u8 u9 u10 hx hy hz
        subst hx; subst hy; subst hz
        refine xwp_go g1 [31] 100 _ _ _ _ ?_
        refine And.intro (fun _ => ?_) (fun h3 => ?_)
        · refine And.intro (fun h4 => ?_) (fun h4 => ?_)
          · rw [if_neg h4] at g2
            exact xri' (G := G) g2 rfl ⟨rfl, a, s, hr, rfl⟩
          · rw [if_pos h4] at g2
            exact xri' (G := G) g2 rfl ⟨rfl, a, s, hr, rfl⟩
        · rw [h0] at h3
          exact absurd (nI_le (Nat.le_refl _) (by omega)) h3
      · intro i hi ih x y z u8 u9 u10 hx hy hz
        subst hx; subst hy; subst hz
        refine xwp_go g1 [31] 100 _ _ _ _ ?_
        refine And.intro (fun h3 => ?_) (fun _ => ?_)
        · rw [h0] at h3
          exact absurd h3 (nI_ge hi (by omega))
        refine xcM (G := G) g3 (m_laid d hr.1 (set := m) (over := 0) (by omega) (by decide)) ?_
        refine xwp_go g1 [31] 100 _ _ _ _ ?_
        refine And.intro (fun h3 => ?_) (fun _ => ?_)
        · rw [nI_eq (by omega) (by omega)] at h3
          exact absurd h3 hsame
        refine And.intro (fun h3 => ?_) (fun h3 => ?_) <;> rw [nI_bit0 (by omega) (by omega)] at h3
        · rw [Bool.not_eq_false] at h3
          have ec : nI m &&& ((1 : Int32) <<< (nI i &&& 31) ^^^ (-1)) = nI (clr m i) := by rw [nI_pow (by omega), nI_andn]; rfl
          refine xcM (G := G) g3 (agr2 ec rfl (m_laid d hr.1 (set := clr m i) (over := 0) (clr_lt (n := 31) (by omega)) (by decide))) ?_
          refine xwp_go g1 [31] 100 _ _ _ _ ?_
          refine xcM (G := G) g3 (m_onSlide (d + 1) hr.1 hi) ?_
          have hon := onQ_lt hr.1.1 hi
          have hot := laidQ_lt hr.1.1 (clr m i) 0
          have es : whoL S.1 m o (i + 1) = ((if crackL (laidQ S.1 (clr m i) 0) (onQ S.1 i) o 16 = 0 then (whoL S.1 m o i).1 else (whoL S.1 m o i).1 ||| 2 ^ i), (whoL S.1 m o i).2 + crackL (laidQ S.1 (clr m i) 0) (onQ S.1 i) o 16) := by
            show (if m.testBit i then _ else _) = _
            rw [if_pos h3]
          generalize hcr : crackL (laidQ S.1 (clr m i) 0) (onQ S.1 i) o = cr at es
          generalize laidQ S.1 (clr m i) 0 = others at hot hcr
          generalize onQ S.1 i = on at hon hcr
          have cs : ∀ c, cr (c + 1) = cr c + (if on.testBit c ∧ others ||| clr on c = o then 1 else 0) := fun c => by rw [← hcr]; rfl
          have c0 : cr 0 = 0 := by rw [← hcr]; rfl
          refine xwp_go g1 [31, 88] 100 _ _ _ _ ?_
          refine up (k := 16) (P := fun c => ∀ x y z, x = nI c → y = nI (if cr c = 0 then (whoL S.1 m o i).1 else (whoL S.1 m o i).1 ||| 2 ^ i) → z = nI ((whoL S.1 m o i).2 + cr c) → G 88 [some (.ref 0), some (.int (nI m)), some (.int (nI o)), some (.int (nI k)), some (.int why), some (.int y), some (.int z), some (.int (nI i)), some (.int (nI others)), some (.int (nI on)), some (.int x)] [] (eM a s)) ?_ ?_ 0 (Nat.zero_le _) _ _ _ rfl (by rw [c0]; rfl) (by rw [c0]; rfl)
          · intro x y z hx hy hz
            subst hx; subst hy; subst hz
            refine xwp_go g1 [31, 88] 100 _ _ _ _ ?_
            refine And.intro (fun _ => ?_) (fun h4 => absurd (by decide) h4)
            exact ih _ _ _ _ _ _ (nI_1 i) (by rw [es]) (by rw [es])
          · intro c hc ihc x y z hx hy hz
            subst hx; subst hy; subst hz
            refine xwp_go g1 [31, 88] 100 _ _ _ _ ?_
            refine And.intro (fun h4 => absurd h4 (nI_ge (b := 16) hc (by decide))) (fun _ => ?_)
            refine And.intro (fun h4 => ?_) (fun h4 => ?_) <;> rw [nI_bit0 (by omega) (by omega)] at h4
            · have : cr (c + 1) = cr c := by rw [cs, if_neg (by rw [h4]; exact fun z => by cases z.1)]; rfl
              exact ihc _ _ _ (nI_1 c) (by rw [this]) (by rw [this])
            · rw [Bool.not_eq_false] at h4
              have hcl : others ||| clr on c < 65536 := Nat.or_lt_two_pow (n := 16) hot (clr_lt (n := 16) hon)
              have ep : nI others ||| nI on &&& ((1 : Int32) <<< (nI c &&& 31) ^^^ (-1)) = nI (others ||| clr on c) := by rw [nI_pow (by omega), nI_andn, fa_or]; rfl
              refine And.intro (fun h5 => ?_) (fun h5 => ?_) <;> rw [ep, nI_eq (by omega) (by omega)] at h5
              · have : cr (c + 1) = cr c + 1 := by rw [cs, if_pos ⟨h4, h5⟩]
                refine ihc _ _ _ (nI_1 c) ?_ (by rw [this, nI_1]; rfl)
                rw [nI_pow (by omega), fa_or, this, if_neg (Nat.succ_ne_zero _)]
                refine congrArg nI ?_
                split
                · rfl
                · rw [Nat.or_assoc, Nat.or_self]
              · have : cr (c + 1) = cr c := by rw [cs, if_neg (fun z => h5 z.2)]; rfl
                exact ihc _ _ _ (nI_1 c) (by rw [this]) (by rw [this])
        · have es : whoL S.1 m o (i + 1) = whoL S.1 m o i := by
            show (if m.testBit i then _ else _) = _
            rw [if_neg (by rw [h3]; decide)]
          exact ih _ _ _ _ _ _ (nI_1 i) (by rw [es]) (by rw [es])
  · rw [if_pos h] at g2
    refine xcMW (G := G) g3 (m_no (d + 2) a s (ask_k h).1 (ask_k h).2) ?_
    refine xwp_go g1 [] 100 _ _ _ _ ?_
    exact xri' (G := G) g2 rfl ⟨rfl, _, s, relM_no hr, rfl⟩
