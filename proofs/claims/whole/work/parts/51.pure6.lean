/-! the class's tours are the reference's -/
theorem popL_flip {x i : Nat} (h : x.testBit i = true) : ∀ k, popL x k = popL (x ^^^ 2 ^ i) k + (if i < k then 1 else 0)
  | 0 => by rw [if_neg (Nat.not_lt_zero i)]; rfl
  | k + 1 => by
    show popL x k + x / 2 ^ k % 2 = popL (x ^^^ 2 ^ i) k + (x ^^^ 2 ^ i) / 2 ^ k % 2 + _
    rw [popL_flip h k, bit_n, bit_n, Nat.testBit_xor, Nat.testBit_two_pow]
    by_cases e : i = k
    · subst e
      rw [h, decide_eq_true rfl, if_neg (Nat.lt_irrefl i), if_pos (Nat.lt_succ_self i)]
      rfl
    · rw [decide_eq_false e, Bool.xor_false]
      by_cases hlt : i < k
      · rw [if_pos hlt, if_pos (by omega)]; omega
      · rw [if_neg hlt, if_neg (by omega)]; rfl
theorem pop_flip {x i : Nat} (hi : i < 16) (h : x.testBit i = true) : pop x = pop (x ^^^ 2 ^ i) + 1 := by
  have := popL_flip h 16
  rw [if_pos hi] at this
  exact this
theorem lt_low {x i : Nat} (h : x < 2 ^ (i + 1)) (hb : x.testBit i = false) : x < 2 ^ i := Nat.lt_pow_two_of_testBit _ (fun k hk => by
  rcases Nat.lt_or_ge i k with h1 | h1
  · exact Nat.testBit_lt_two_pow (Nat.lt_of_lt_of_le h (Nat.pow_le_pow_right (by decide) h1))
  · rw [show k = i by omega]; exact hb)
theorem xor_move (z s i : Nat) : z ^^^ (s ^^^ 2 ^ i) = z ^^^ s ^^^ 2 ^ i := (Nat.xor_assoc z s (2 ^ i)).symm
theorem flip_lt {x i : Nat} (h : x < 2 ^ (i + 1)) (hb : x.testBit i = true) : x ^^^ 2 ^ i < 2 ^ i := by
  refine lt_low (Nat.xor_lt_two_pow h (Nat.pow_lt_pow_right (by decide) (Nat.lt_succ_self i))) ?_
  rw [Nat.testBit_xor, Nat.testBit_two_pow, decide_eq_true rfl, hb]; rfl
theorem wk_spec (f : Nat → Nat) : ∀ i, i ≤ 8 → ∀ s, (∀ z, z ^^^ s < 2 ^ i → wkN f i s ≤ f z + pop (z ^^^ s)) ∧ ∃ z, z ^^^ s < 2 ^ i ∧ wkN f i s = f z + pop (z ^^^ s) := by
  intro i
  induction i with
  | zero =>
    intro _ s
    constructor
    · intro z hz
      have e : z ^^^ s = 0 := by
        have : (2 : Nat) ^ 0 = 1 := rfl
        omega
      have ez : z = s := by
        have := congrArg (fun y => y ^^^ s) e
        simp only [Nat.xor_assoc, Nat.xor_self, Nat.xor_zero, Nat.zero_xor] at this
        exact this
      rw [ez]
      exact Nat.le_add_right _ _
    · exact ⟨s, by rw [Nat.xor_self]; decide, by rw [Nat.xor_self]; rfl⟩
  | succ i ih =>
    intro hi s
    obtain ⟨a1, z1, b1, c1⟩ := ih (by omega) s
    obtain ⟨a2, z2, b2, c2⟩ := ih (by omega) (s ^^^ 2 ^ i)
    have es : wkN f (i + 1) s = if wkN f i (s ^^^ 2 ^ i) + 1 < wkN f i s then wkN f i (s ^^^ 2 ^ i) + 1 else wkN f i s := rfl
    constructor
    · intro z hz
      cases hb : (z ^^^ s).testBit i with
      | false =>
        have := a1 z (lt_low hz hb)
        rw [es]
        split <;> omega
      | true =>
        have h1 := flip_lt hz hb
        have h2 := a2 z (by rw [xor_move]; exact h1)
        rw [xor_move] at h2
        have h3 := pop_flip (by omega) hb
        rw [es]
        split <;> omega
    · rw [es]
      split
      · refine ⟨z2, ?_, ?_⟩
        · rw [xor_move] at b2
          have : z2 ^^^ s = z2 ^^^ s ^^^ 2 ^ i ^^^ 2 ^ i := xor_xor.symm
          rw [this]
          exact Nat.xor_lt_two_pow (Nat.lt_trans b2 (Nat.pow_lt_pow_right (by decide) (Nat.lt_succ_self i))) (Nat.pow_lt_pow_right (by decide) (Nat.lt_succ_self i))
        · rw [xor_move] at b2 c2
          have hb : (z2 ^^^ s).testBit i = true := by
            have h0 := Nat.testBit_lt_two_pow b2
            rw [Nat.testBit_xor, Nat.testBit_two_pow, decide_eq_true rfl] at h0
            revert h0
            cases (z2 ^^^ s).testBit i <;> decide
          have h3 := pop_flip (by omega) hb
          omega
      · exact ⟨z1, Nat.lt_trans b1 (Nat.pow_lt_pow_right (by decide) (Nat.lt_succ_self i)), c1⟩
/-- the least of its kind, or far -/
def isMF (v : Nat) (K : Nat → Prop) : Prop := (K v ∨ (1000 ≤ v ∧ ∀ k, ¬ K k)) ∧ ∀ k, K k → v ≤ k
theorem isMF_congr {v : Nat} {K L : Nat → Prop} (h : isMF v K) (e : ∀ k, K k ↔ L k) : isMF v L := by
  obtain ⟨h1, h2⟩ := h
  refine ⟨?_, fun k hk => h2 k ((e k).mpr hk)⟩
  rcases h1 with h1 | ⟨h1, h3⟩
  · exact Or.inl ((e v).mp h1)
  · exact Or.inr ⟨h1, fun k hk => h3 k ((e k).mpr hk)⟩
theorem isMF_min {a b : Nat} {K L : Nat → Prop} (ha : isMF a K) (hb : isMF b L) (bK : ∀ k, K k → k < 1000) (bL : ∀ k, L k → k < 1000) : isMF (if a < b then a else b) (fun k => K k ∨ L k) := by
  obtain ⟨a1, a2⟩ := ha
  obtain ⟨b1, b2⟩ := hb
  by_cases h : a < b
  · rw [if_pos h]
    refine ⟨?_, ?_⟩
    · rcases a1 with a1 | ⟨a1, a3⟩
      · exact Or.inl (Or.inl a1)
      · refine Or.inr ⟨a1, fun k hk => hk.elim (a3 k) (fun g => ?_)⟩
        have := b2 k g
        have := bL k g
        omega
    · rintro k (g | g)
      · exact a2 k g
      · have := b2 k g; omega
  · rw [if_neg h]
    refine ⟨?_, ?_⟩
    · rcases b1 with b1 | ⟨b1, b3⟩
      · exact Or.inl (Or.inr b1)
      · refine Or.inr ⟨b1, fun k hk => hk.elim (fun g => ?_) (b3 k)⟩
        have := a2 k g
        have := bK k g
        omega
    · rintro k (g | g)
      · have := a2 k g; omega
      · exact b2 k g
/-- tours one step on, at a set -/
def stepK (q : LQ) (m s v : Nat) : Prop := (m = 0 ∧ v = pop s) ∨ ∃ l z k, TTq q m l z k ∧ v = k + pop (z ^^^ s)
theorem stepK_b {q : LQ} (h4 : stopC q ≤ 4) {m s v : Nat} (h : stepK q m s v) : v < 1000 := by
  rcases h with ⟨-, rfl⟩ | ⟨l, z, k, h, rfl⟩
  · have := pop_le s; omega
  · obtain ⟨h1, h2, -, -, -⟩ := TT_b h
    have : 2 ^ stopC q ≤ 2 ^ 4 := Nat.pow_le_pow_right (by decide) h4
    have := pop_le (z ^^^ s)
    omega
theorem TT_step {q : LQ} {m l z v : Nat} : TTq q m l z v ↔ l < stopC q ∧ z < 2 ^ q 6 0 ∧ laidQ q z 0 = stopAt q l ∧ m.testBit l = true ∧ stepK q (m ^^^ 2 ^ l) z v := by
  rw [show TTq q m l z v ↔ _ from TT_iff]
  constructor
  · rintro ⟨h1, h2, h3, h4⟩
    rcases h4 with ⟨rfl, rfl⟩ | ⟨m', l', z', k', h5, h6, rfl, rfl⟩
    · exact ⟨h1, h2, h3, Nat.testBit_two_pow_self, Or.inl ⟨Nat.xor_self _, rfl⟩⟩
    · refine ⟨h1, h2, h3, bit_at m' l, Or.inr ⟨l', z', k', ?_, rfl⟩⟩
      have : (m' ||| 2 ^ l) ^^^ 2 ^ l = m' := Nat.eq_of_testBit_eq (fun k => by
        rw [Nat.testBit_xor, Nat.testBit_or, Nat.testBit_two_pow]
        by_cases e : l = k
        · rw [← e, h6, decide_eq_true rfl]; rfl
        · rw [decide_eq_false e, Bool.or_false, Bool.xor_false])
      rw [this]
      exact h5
  · rintro ⟨h1, h2, h3, h4, h5⟩
    have em : m ^^^ 2 ^ l ||| 2 ^ l = m := Nat.eq_of_testBit_eq (fun k => by
      rw [Nat.testBit_or, Nat.testBit_xor, Nat.testBit_two_pow]
      by_cases e : l = k
      · rw [← e, h4, decide_eq_true rfl]; rfl
      · rw [decide_eq_false e, Bool.or_false, Bool.xor_false])
    refine ⟨h1, h2, h3, ?_⟩
    rcases h5 with ⟨h5, rfl⟩ | ⟨l', z', k', h5, rfl⟩
    · refine Or.inl ⟨?_, rfl⟩
      rw [h5, Nat.zero_or] at em
      exact em.symm
    · refine Or.inr ⟨m ^^^ 2 ^ l, l', z', k', h5, ?_, em.symm, rfl⟩
      rw [Nat.testBit_xor, h4, Nat.testBit_two_pow_self]; rfl
theorem arv_spec {q : LQ} (h4 : stopC q ≤ 4) {F : Nat → Nat → Nat} {dn s : Nat} (hF : ∀ m, m < dn → isMF (F m s) (stepK q m s)) : ∀ t, isMF (arvN (fun m => laidQ q m 0) (stopAt q) F dn s t) (fun v => ∃ l, l < t ∧ laidQ q s 0 = stopAt q l ∧ dn.testBit l = true ∧ stepK q (dn ^^^ 2 ^ l) s v)
  | 0 => ⟨Or.inr ⟨Nat.le_refl _, fun k hk => by obtain ⟨l, h, -⟩ := hk; exact Nat.not_lt_zero l h⟩, fun k hk => by obtain ⟨l, h, -⟩ := hk; exact absurd h (Nat.not_lt_zero l)⟩
  | t + 1 => by
    have ih := arv_spec h4 hF t
    unfold arvN
    by_cases c : dn.testBit t = true ∧ laidQ q s 0 = stopAt q t
    · rw [if_pos c]
      refine isMF_congr (isMF_min (hF _ (xor_bit_lt c.1)) ih (fun k hk => stepK_b h4 hk) (fun k hk => by obtain ⟨l, -, -, -, g⟩ := hk; exact stepK_b h4 g)) (fun k => ?_)
      constructor
      · rintro (g | ⟨l, g1, g⟩)
        · exact ⟨t, Nat.lt_succ_self t, c.2, c.1, g⟩
        · exact ⟨l, by omega, g⟩
      · rintro ⟨l, g1, g2, g3, g4⟩
        by_cases e : l = t
        · rw [e] at g4; exact Or.inl g4
        · exact Or.inr ⟨l, by omega, g2, g3, g4⟩
    · rw [if_neg c]
      refine isMF_congr ih (fun k => ?_)
      constructor
      · rintro ⟨l, g1, g⟩; exact ⟨l, by omega, g⟩
      · rintro ⟨l, g1, g2, g3, g4⟩
        by_cases e : l = t
        · rw [e] at g2 g3; exact absurd ⟨g3, g2⟩ c
        · exact ⟨l, by omega, g2, g3, g4⟩
theorem arq_spec {q : LQ} (h4 : stopC q ≤ 4) {F : Nat → Nat → Nat} {dn s : Nat} (hs : s < 2 ^ q 6 0) (hF : ∀ m, m < dn → isMF (F m s) (stepK q m s)) : isMF (arvQ q F dn s) (fun v => ∃ l, TTq q dn l s v) := by
  refine isMF_congr (arv_spec h4 hF (stopC q)) (fun k => ?_)
  constructor
  · rintro ⟨l, g1, g2, g3, g4⟩
    exact ⟨l, TT_step.mpr ⟨g1, hs, g2, g3, g4⟩⟩
  · rintro ⟨l, g⟩
    obtain ⟨g1, -, g2, g3, g4⟩ := TT_step.mp g
    exact ⟨l, g1, g2, g3, g4⟩
theorem wkq_spec {q : LQ} (h8 : q 6 0 ≤ 8) (h4 : stopC q ≤ 4) {f : Nat → Nat} {dn s : Nat} (h0 : 0 < dn) (hs : s < 2 ^ q 6 0) (hf : ∀ z, z < 2 ^ q 6 0 → isMF (f z) (fun v => ∃ l, TTq q dn l z v)) : isMF (wkN f (q 6 0) s) (stepK q dn s) := by
  obtain ⟨a1, z0, b0, c0⟩ := wk_spec f (q 6 0) h8 s
  have hpc : 2 ^ stopC q ≤ 2 ^ 4 := Nat.pow_le_pow_right (by decide) h4
  have low : ∀ k, stepK q dn s k → wkN f (q 6 0) s ≤ k := by
    rintro k (⟨e, -⟩ | ⟨l, z, k', g, rfl⟩)
    · omega
    · have hz := (TT_b g).2.2.2.2
      have h1 := a1 z (Nat.xor_lt_two_pow hz hs)
      have h2 := (hf z hz).2 k' ⟨l, g⟩
      omega
  refine ⟨?_, low⟩
  have hz0 : z0 < 2 ^ q 6 0 := by
    have : z0 = z0 ^^^ s ^^^ s := by rw [Nat.xor_assoc, Nat.xor_self, Nat.xor_zero]
    rw [this]
    exact Nat.xor_lt_two_pow b0 hs
  rcases (hf z0 hz0).1 with ⟨l, g⟩ | ⟨g1, g2⟩
  · exact Or.inl (Or.inr ⟨l, z0, f z0, g, c0⟩)
  · refine Or.inr ⟨by omega, fun k hk => ?_⟩
    have := low k hk
    have := stepK_b h4 hk
    omega
theorem tab_spec {q : LQ} (h8 : q 6 0 ≤ 8) (h4 : stopC q ≤ 4) : ∀ k, (∀ m, m ≤ k → m < 2 ^ stopC q - 1 → ∀ s, s < 2 ^ q 6 0 → isMF (tabF q k m s) (stepK q m s)) ∧ (0 < 2 ^ stopC q - 1 → 2 ^ stopC q - 1 = k → ∀ s, s < 2 ^ q 6 0 → isMF (tabF q k k s) (fun v => ∃ l, TTq q k l s v))
  | 0 => by
    refine ⟨fun m hm _ s hs => ?_, fun h1 h2 => by omega⟩
    obtain rfl : m = 0 := by omega
    refine ⟨Or.inl (Or.inl ⟨rfl, rfl⟩), ?_⟩
    rintro k (⟨-, rfl⟩ | ⟨l, z, k', g, -⟩)
    · exact Nat.le_refl _
    · have := (TT_b g).2.2.1; omega
  | k + 1 => by
    obtain ⟨i1, -⟩ := tab_spec h8 h4 k
    have enew : ∀ s, tabF q (k + 1) (k + 1) s = if k + 1 < 2 ^ stopC q - 1 then wkN (arvQ q (tabF q k) (k + 1)) (q 6 0) s else arvQ q (tabF q k) (k + 1) s := by
      intro s
      show (if k + 1 = k + 1 then _ else _) = _
      rw [if_pos rfl]
    have harr : k + 1 ≤ 2 ^ stopC q - 1 → ∀ s, s < 2 ^ q 6 0 → isMF (arvQ q (tabF q k) (k + 1) s) (fun v => ∃ l, TTq q (k + 1) l s v) := fun hk s hs => arq_spec h4 hs (fun m hm => i1 m (by omega) (by omega) s hs)
    refine ⟨fun m hm hlt s hs => ?_, fun h1 h2 s hs => ?_⟩
    · by_cases e : m = k + 1
      · subst e
        rw [enew, if_pos hlt]
        exact wkq_spec h8 h4 (Nat.succ_pos k) hs (harr (by omega))
      · have et : tabF q (k + 1) m s = tabF q k m s := by
          show (if m = k + 1 then _ else tabF q k m s) = _
          rw [if_neg e]
        rw [et]
        exact i1 m (by omega) hlt s hs
    · rw [enew, if_neg (by omega)]
      exact harr (by omega) s hs
theorem lst_spec {f : Nat → Nat} {K : Nat → Nat → Prop} {M : Nat} (hb : ∀ z k, K z k → k < 1000) (h : ∀ s, s < M → isMF (f s) (K s)) : ∀ t, t ≤ M → isMF (lstV f t) (fun v => ∃ s, s < t ∧ K s v)
  | 0, _ => ⟨Or.inr ⟨Nat.le_refl _, fun k hk => by obtain ⟨s, g, -⟩ := hk; exact Nat.not_lt_zero s g⟩, fun k hk => by obtain ⟨s, g, -⟩ := hk; exact absurd g (Nat.not_lt_zero s)⟩
  | t + 1, ht => by
    have ih := lst_spec hb h t (by omega)
    unfold lstV
    refine isMF_congr (isMF_min (h t (by omega)) ih (hb t) (fun k hk => by obtain ⟨s, -, g⟩ := hk; exact hb s k g)) (fun k => ?_)
    constructor
    · rintro (g | ⟨s, g1, g⟩)
      · exact ⟨t, Nat.lt_succ_self t, g⟩
      · exact ⟨s, by omega, g⟩
    · rintro ⟨s, g1, g⟩
      by_cases e : s = t
      · rw [e] at g; exact Or.inl g
      · exact Or.inr ⟨s, by omega, g⟩
theorem stop_shown (q : LQ) : ∀ i x, x ∈ stopsL q i → ∃ z, z < 2 ^ q 6 0 ∧ laidQ q z 0 = x
  | 0, x, h => absurd h (List.not_mem_nil)
  | i + 1, x, h => by
    unfold stopsL at h
    split at h
    · next e =>
      rcases List.mem_append.mp h with h | h
      · exact stop_shown q i x h
      · rw [List.mem_singleton.mp h]
        obtain ⟨z, hz, g⟩ := List.any_eq_true.mp e
        exact ⟨z, List.mem_range.mp hz, by simpa using g⟩
    · exact stop_shown q i x h
theorem some_tour (q : LQ) : ∀ j, j < stopC q → ∃ z k, TTq q (2 ^ (j + 1) - 1) j z k
  | 0, h => by
    obtain ⟨z, hz, e⟩ := stop_shown q (q 6 1) _ (gA_mem (t := 0) h)
    exact ⟨z, pop z, TT_iff.mpr ⟨h, hz, e, Or.inl ⟨rfl, rfl⟩⟩⟩
  | j + 1, h => by
    obtain ⟨z', k', g⟩ := some_tour q j (by omega)
    obtain ⟨z, hz, e⟩ := stop_shown q (q 6 1) _ (gA_mem (t := j + 1) h)
    have hp := Nat.two_pow_pos (j + 1)
    refine ⟨z, k' + pop (z' ^^^ z), TT_iff.mpr ⟨h, hz, e, Or.inr ⟨_, _, _, _, g, ?_, ?_, rfl⟩⟩⟩
    · exact Nat.testBit_lt_two_pow (by omega)
    · rw [or_add (show 2 ^ (j + 1) - 1 < 2 ^ (j + 1) by omega), Nat.pow_succ 2 (j + 1)]
      omega
theorem tour_eq {q : LQ} (h8 : q 6 0 ≤ 8) (h1 : 1 ≤ stopC q) (h4 : stopC q ≤ 4) : isMn (nI (tourC q)) (endK q 1024) := by
  have hpc : 2 ^ stopC q ≤ 2 ^ 4 := Nat.pow_le_pow_right (by decide) h4
  have hp1 : 2 ^ 1 ≤ 2 ^ stopC q := Nat.pow_le_pow_right (by decide) h1
  have hM : 2 ^ q 6 0 ≤ 2 ^ 8 := Nat.pow_le_pow_right (by decide) h8
  have hT := (tab_spec h8 h4 (2 ^ stopC q - 1)).2 (by omega) rfl
  have hL := lst_spec (K := fun s v => ∃ l, TTq q (2 ^ stopC q - 1) l s v) (fun z k hk => by
    obtain ⟨l, g⟩ := hk
    obtain ⟨b1, b2, -⟩ := TT_b g
    omega) hT (2 ^ q 6 0) (Nat.le_refl _)
  obtain ⟨z, k, g⟩ := some_tour q (stopC q - 1) (by omega)
  rw [show stopC q - 1 + 1 = stopC q by omega] at g
  have hE : ∀ k, (∃ s, s < 2 ^ q 6 0 ∧ ∃ l, TTq q (2 ^ stopC q - 1) l s k) ↔ endK q 1024 k := by
    intro k
    constructor
    · rintro ⟨s, hs, l, g⟩
      have := (TT_b g).2.2.2.1
      exact ⟨l, s, by omega, g⟩
    · rintro ⟨l, s, -, g⟩
      exact ⟨s, (TT_b g).2.2.2.2, l, g⟩
  have hL := isMF_congr hL hE
  rcases hL.1 with h | ⟨-, h⟩
  · exact Or.inr ⟨tourC q, rfl, h, hL.2⟩
  · exact absurd ((hE k).mp ⟨z, (TT_b g).2.2.2.2, _, g⟩) (h k)
theorem xCt_imp {d c : Nat} {as : List Value} {ws : xH} {P Q : xPost} (h : xCt xMs (d + 1) c as ws P) (hi : ∀ v w, P v w → Q v w) : xCt xMs (d + 1) c as ws Q := by
  obtain ⟨M, h1, h2, h3, h4⟩ := h
  refine ⟨M, h1, h2, h3, fun G g1 g2 g3 => h4 G g1 ⟨?_, ?_, ?_⟩ g3⟩
  · intro pc n an j loc ws x e1 e2 e3; exact g2.1 pc n an j loc ws x e1 e2 (hi _ _ e3)
  · intro pc n an j loc ws x e1 e2 e3; exact g2.2.1 pc n an j loc ws x e1 e2 (hi _ _ e3)
  · intro pc n an j loc ws e1 e2 e3; exact g2.2.2 pc n an j loc ws e1 e2 (hi _ _ e3)
/-- what both answer -/
def spRnd (S : SG) : Int32 × SG := (if stopC S.1 < 1 ∨ 4 < stopC S.1 then -9 else nI (tourC S.1), S)
theorem m_round' (d : Nat) {S : SG} {a : Nat → Nat → Int32} {s : Nat → Int32} (hr : relM S a s) : xCt xMs (d + 5) nX6_round [.ref 0] (eM a s) (pMs (spRnd S)) := by
  have h := m_round d hr
  have imp : ∀ v w, (∃ r, v = some (.int r) ∧ ((stopC S.1 < 1 ∨ 4 < stopC S.1) → r = -9) ∧ (¬ (stopC S.1 < 1 ∨ 4 < stopC S.1) → isMn r (endK S.1 1024)) ∧ ∃ a', relM S a' s ∧ w = eM a' s) → pMs (spRnd S) v w := by
    rintro v w ⟨r, rfl, h1, h2, a', h3, h4⟩
    refine ⟨?_, a', s, h3, h4⟩
    show some (Value.int r) = some (.int (if stopC S.1 < 1 ∨ 4 < stopC S.1 then -9 else nI (tourC S.1)))
    by_cases c : stopC S.1 < 1 ∨ 4 < stopC S.1
    · rw [if_pos c, h1 c]
    · rw [if_neg c, isMn_u (h2 c) (tour_eq hr.1.1.1 (by omega) (by omega))]
  exact xCt_imp h imp
