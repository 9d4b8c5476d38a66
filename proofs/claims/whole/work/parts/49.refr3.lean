/-! tours; the reference's round -/
def TR (M c : Nat) (sh st : Nat → Nat) : Nat → Nat → Nat → Nat → Nat → Prop
  | 0, _, _, _, _ => False
  | f + 1, m, l, z, k => l < c ∧ z < M ∧ sh z = st l ∧ ((m = 2 ^ l ∧ k = pop z) ∨ ∃ m' l' z' k', TR M c sh st f m' l' z' k' ∧ m'.testBit l = false ∧ m = m' ||| 2 ^ l ∧ k = k' + pop (z' ^^^ z))
def TT (M c : Nat) (sh st : Nat → Nat) (m l z k : Nat) : Prop := ∃ f, TR M c sh st f m l z k
theorem TT_iff {M c : Nat} {sh st : Nat → Nat} {m l z k : Nat} : TT M c sh st m l z k ↔ l < c ∧ z < M ∧ sh z = st l ∧ ((m = 2 ^ l ∧ k = pop z) ∨ ∃ m' l' z' k', TT M c sh st m' l' z' k' ∧ m'.testBit l = false ∧ m = m' ||| 2 ^ l ∧ k = k' + pop (z' ^^^ z)) := by
  constructor
  · rintro ⟨f, h⟩
    cases f with
    | zero => exact absurd h id
    | succ f =>
      obtain ⟨h1, h2, h3, h4⟩ := h
      refine ⟨h1, h2, h3, ?_⟩
      rcases h4 with h4 | ⟨m', l', z', k', h5, h6⟩
      · exact Or.inl h4
      · exact Or.inr ⟨m', l', z', k', ⟨f, h5⟩, h6⟩
  · rintro ⟨h1, h2, h3, h4⟩
    rcases h4 with h4 | ⟨m', l', z', k', ⟨f, h5⟩, h6⟩
    · exact ⟨1, h1, h2, h3, Or.inl h4⟩
    · exact ⟨f + 1, h1, h2, h3, Or.inr ⟨m', l', z', k', h5, h6⟩⟩
theorem or_gt {m l : Nat} (h : m.testBit l = false) : m < m ||| 2 ^ l := by
  have h1 := sb_le (sb_l m (2 ^ l))
  rcases Nat.lt_or_ge m (m ||| 2 ^ l) with h2 | h2
  · exact h2
  · have e : m ||| 2 ^ l = m := by omega
    have := bit_at m l
    rw [e, h] at this
    exact absurd this (by decide)
theorem TR_b {M c : Nat} {sh st : Nat → Nat} : ∀ f m l z k, TR M c sh st f m l z k → k ≤ 16 * m ∧ m < 2 ^ c ∧ 0 < m ∧ l < c ∧ z < M := by
  intro f
  induction f with
  | zero => intro m l z k h; exact absurd h id
  | succ f ih =>
    intro m l z k h
    obtain ⟨h1, h2, h3, h4⟩ := h
    have hp := Nat.two_pow_pos l
    have hlt : 2 ^ l < 2 ^ c := Nat.pow_lt_pow_right (by decide) h1
    rcases h4 with ⟨rfl, rfl⟩ | ⟨m', l', z', k', h5, h6, rfl, rfl⟩
    · have := pop_le z
      exact ⟨by omega, hlt, hp, h1, h2⟩
    · obtain ⟨i1, i2, i3, -, -⟩ := ih _ _ _ _ h5
      have := or_gt h6
      have hpp := pop_le (z' ^^^ z)
      exact ⟨by omega, Nat.or_lt_two_pow i2 hlt, by omega, h1, h2⟩
theorem TT_b {M c : Nat} {sh st : Nat → Nat} {m l z k : Nat} (h : TT M c sh st m l z k) : k ≤ 16 * m ∧ m < 2 ^ c ∧ 0 < m ∧ l < c ∧ z < M := TR_b _ _ _ _ _ h.choose_spec
def AA (M c : Nat) (sh st : Nat → Nat) (d0 i0 m l z k : Nat) : Prop := l < c ∧ z < M ∧ sh z = st l ∧ ((m = 2 ^ l ∧ k = pop z) ∨ ∃ m' l' z' k', TT M c sh st m' l' z' k' ∧ (m' < d0 ∨ (m' = d0 ∧ 256 * l' + z' < i0)) ∧ m'.testBit l = false ∧ m = m' ||| 2 ^ l ∧ k = k' + pop (z' ^^^ z))
theorem AA_T {M c : Nat} {sh st : Nat → Nat} {d0 i0 m l z k : Nat} (h : AA M c sh st d0 i0 m l z k) : TT M c sh st m l z k := by
  obtain ⟨h1, h2, h3, h4⟩ := h
  refine TT_iff.mpr ⟨h1, h2, h3, ?_⟩
  rcases h4 with h4 | ⟨m', l', z', k', h5, -, h6⟩
  · exact Or.inl h4
  · exact Or.inr ⟨m', l', z', k', h5, h6⟩
theorem T_AA {M c : Nat} {sh st : Nat → Nat} {d0 i0 m l z k : Nat} (hm : m ≤ d0) (h : TT M c sh st m l z k) : AA M c sh st d0 i0 m l z k := by
  obtain ⟨h1, h2, h3, h4⟩ := TT_iff.mp h
  refine ⟨h1, h2, h3, ?_⟩
  rcases h4 with h4 | ⟨m', l', z', k', h5, h6, h7, h8⟩
  · exact Or.inl h4
  · have := or_gt h6
    exact Or.inr ⟨m', l', z', k', h5, Or.inl (by omega), h6, h7, h8⟩
/-- a number is the least of its kind, or -9 where there is none -/
def isMn (v : Int32) (K : Nat → Prop) : Prop := (v = -9 ∧ ∀ k, ¬ K k) ∨ ∃ k, v = nI k ∧ K k ∧ ∀ k', K k' → k ≤ k'
theorem isMn_congr {v : Int32} {K L : Nat → Prop} (h : isMn v K) (e : ∀ k, K k ↔ L k) : isMn v L := by
  rcases h with ⟨h1, h2⟩ | ⟨k, h1, h2, h3⟩
  · exact Or.inl ⟨h1, fun k hk => h2 k ((e k).mpr hk)⟩
  · exact Or.inr ⟨k, h1, (e k).mp h2, fun k' hk => h3 k' ((e k').mpr hk)⟩
theorem isMn_low {v f : Int32} {K F : Nat → Prop} {w : Nat} (hK : isMn v K) (hF : isMn f F) (hn : ¬ f < 0) (bK : ∀ k, K k → k ≤ 1000) (bF : ∀ k, F k → k ≤ 1000) (hw : w ≤ 16) : isMn (lowI v (f + nI w)) (fun k => K k ∨ ∃ k', F k' ∧ k = k' + w) := by
  rcases hF with ⟨h1, -⟩ | ⟨x, rfl, h2, h3⟩
  · rw [h1] at hn; exact absurd (by decide) hn
  have bx := bF x h2
  rw [nI_add]
  rcases hK with ⟨rfl, g2⟩ | ⟨y, rfl, g2, g3⟩
  · refine Or.inr ⟨x + w, by unfold lowI; rw [if_pos (by decide)], Or.inr ⟨x, h2, rfl⟩, ?_⟩
    rintro k' (hk | ⟨k2, hk, rfl⟩)
    · exact absurd hk (g2 k')
    · have := h3 k2 hk; omega
  · have bY := bK y g2
    unfold lowI
    rw [if_neg (nI_pos (by omega))]
    by_cases e : y ≤ x + w
    · rw [if_pos (nI_le e (by omega))]
      refine Or.inr ⟨y, rfl, Or.inl g2, ?_⟩
      rintro k' (hk | ⟨k2, hk, rfl⟩)
      · exact g3 k' hk
      · have := h3 k2 hk; omega
    · rw [if_neg (fun z => e ((nI_leI (by omega) (by omega)).mp z))]
      refine Or.inr ⟨x + w, rfl, Or.inr ⟨x, h2, rfl⟩, ?_⟩
      rintro k' (hk | ⟨k2, hk, rfl⟩)
      · have := g3 k' hk; omega
      · have := h3 k2 hk; omega
theorem isMn_one {k0 : Nat} : isMn (nI k0) (fun k => k = k0) := Or.inr ⟨k0, rfl, rfl, fun _ h => by omega⟩
theorem isMn_none {f : Int32} {F : Nat → Prop} (h : isMn f F) (hb : ∀ k, F k → k ≤ 1000) (hn : f < 0) : ∀ k, ¬ F k := by
  rcases h with ⟨-, h⟩ | ⟨k, rfl, h, -⟩
  · exact h
  · exact absurd hn (nI_pos (by have := hb k h; omega))
theorem isMn_u {v w : Int32} {K : Nat → Prop} (h : isMn v K) (h2 : isMn w K) : v = w := by
  rcases h with ⟨rfl, a⟩ | ⟨k, rfl, a, b⟩
  · rcases h2 with ⟨rfl, -⟩ | ⟨k, -, c, -⟩
    · rfl
    · exact absurd c (a k)
  · rcases h2 with ⟨-, c⟩ | ⟨k', rfl, c, e⟩
    · exact absurd a (c k)
    · have := b k' c
      have := e k a
      rw [show k = k' by omega]
theorem relM_t {S : SG} {a a' : Nat → Nat → Int32} {s : Nat → Int32} (h : relM S a s) (e : ∀ r, r < 12 ∨ r = 15 → a' r = a r) : relM S a' s := by
  obtain ⟨h1, h2, h3, h4, h5, h6⟩ := h
  refine ⟨?_, ?_, ?_, ?_, h5, fun hh => ?_⟩
  · unfold relS at h1 ⊢
    rw [e 0 (by omega), e 1 (by omega), e 2 (by omega), e 3 (by omega), e 4 (by omega), e 5 (by omega)]
    exact h1
  · rw [e 6 (by omega)]; exact h2
  · rw [e 7 (by omega)]; exact h3
  · rw [e 15 (by omega)]; exact h4
  · rw [e 11 (by omega)]; exact h6 hh
