/-! can: what both find -/
/-- what is shown can still become the picture -/
def Cm (D : LD) : Nat → Nat → Nat → Prop
  | 0, _, sh => sh = D.2.2.2.2
  | j + 1, i, sh => Cm D j (i + 1) sh ∨ (∃ x, D.1 i = some x ∧ Cm D j (i + 1) (sh ||| x)) ∨ ∃ x, D.2.1 i = some x ∧ Cm D j (i + 1) (sh ||| x)
theorem or_swap (a b c : Nat) : a ||| b ||| c = a ||| c ||| b := by rw [Nat.or_assoc, Nat.or_comm b c, ← Nat.or_assoc]
theorem Cm_up {D : LD} {y : Nat} (hy : sb y D.2.2.2.2) : ∀ j i sh, Cm D j i sh → Cm D j i (sh ||| y) := by
  intro j
  induction j with
  | zero =>
    intro i sh h
    have h : sh = D.2.2.2.2 := h
    show sh ||| y = D.2.2.2.2
    rw [h, sb_or_eq hy]
  | succ j ih =>
    intro i sh h
    rcases h with h | ⟨x, hx, h⟩ | ⟨x, hx, h⟩
    · exact Or.inl (ih _ _ h)
    · exact Or.inr (Or.inl ⟨x, hx, by rw [or_swap]; exact ih _ _ h⟩)
    · exact Or.inr (Or.inr ⟨x, hx, by rw [or_swap]; exact ih _ _ h⟩)
theorem lay_some {x al y : Nat} (h : layO x al = some y) : y = x ∧ sb x al := by
  unfold layO at h
  split at h
  · next e => cases h; exact ⟨rfl, sb_0.mp e⟩
  · cases h
theorem str_some {q : LQ} {x : Option Nat} {al i y : Nat} (h : strO q x al i = some y) : x ≠ some i ∧ y = onQ q i ∧ sb (onQ q i) al := by
  unfold strO at h
  split at h
  · cases h
  · next e => exact ⟨e, lay_some h⟩
theorem tur_some {q : LQ} {x : Option Nat} {al i y : Nat} (h : turO q x al i = some y) : x ≠ some i ∧ y = mirN (onQ q i) ∧ sb (mirN (onQ q i)) al := by
  unfold turO at h
  split at h
  · cases h
  · next e => exact ⟨e, lay_some h⟩
/-- as a leaf -/
theorem Cm_lvs {q : LQ} {x : Option Nat} {p : Nat} : ∀ j i set ov, i + j = q 6 0 → set < 2 ^ i → ov < 2 ^ i → (∀ k, k < i → x = some k → set.testBit k = false) → sb (laidL q set ov i) p → (Cm (ldD q x p p) j i (laidL q set ov i) ↔ ∃ e, e ∈ lvs j i (set, ov) ∧ (∀ k, k < q 6 0 → x = some k → e.1.testBit k = false) ∧ laidQ q e.1 e.2 = p) := by
  intro j
  induction j with
  | zero =>
    intro i set ov hij hs ho hx hp
    obtain rfl : i = q 6 0 := by omega
    constructor
    · intro h
      exact ⟨(set, ov), List.mem_singleton.mpr rfl, hx, h⟩
    · rintro ⟨e, he, h1, h2⟩
      rw [List.mem_singleton.mp he] at h2
      exact h2
  | succ j ih =>
    intro i set ov hij hs ho hx hp
    have hx0 : ∀ k, k < i + 1 → x = some k → set.testBit k = false := by
      intro k hk e
      rcases Nat.lt_or_ge k i with h | h
      · exact hx k h e
      · rw [show k = i by omega]; exact bit_no hs
    have hx1 : x ≠ some i → ∀ k, k < i + 1 → x = some k → (set ||| 2 ^ i).testBit k = false := by
      intro hne k hk e
      rcases Nat.lt_or_ge k i with h | h
      · rw [bit_same h]; exact hx k h e
      · exact absurd (by rw [e, show k = i by omega]) hne
    have i0 := ih (i + 1) set ov (by omega) (up1 hs) (up1 ho) hx0 (by rw [laid_0 hs]; exact hp)
    rw [laid_0 hs] at i0
    constructor
    · intro h
      rcases h with h | ⟨y, hy, h⟩ | ⟨y, hy, h⟩
      · obtain ⟨e, he, h1, h2⟩ := i0.mp h
        exact ⟨e, List.mem_append.mpr (Or.inl he), h1, h2⟩
      · obtain ⟨g1, rfl, g3⟩ := str_some hy
        have i1 := ih (i + 1) (set ||| 2 ^ i) ov (by omega) (bitS_lt hs) (up1 ho) (hx1 g1) (by rw [laid_1 ho]; exact sb_or hp g3)
        rw [laid_1 ho] at i1
        obtain ⟨e, he, h1, h2⟩ := i1.mp h
        exact ⟨e, List.mem_append.mpr (Or.inr (List.mem_append.mpr (Or.inl he))), h1, h2⟩
      · obtain ⟨g1, rfl, g3⟩ := tur_some hy
        have i2 := ih (i + 1) (set ||| 2 ^ i) (ov ||| 2 ^ i) (by omega) (bitS_lt hs) (bitS_lt ho) (hx1 g1) (by rw [laid_2]; exact sb_or hp g3)
        rw [laid_2] at i2
        obtain ⟨e, he, h1, h2⟩ := i2.mp h
        exact ⟨e, List.mem_append.mpr (Or.inr (List.mem_append.mpr (Or.inr he))), h1, h2⟩
    · rintro ⟨e, he, h1, h2⟩
      rcases List.mem_append.mp he with he | he
      · exact Or.inl (i0.mpr ⟨e, he, h1, h2⟩)
      · rcases List.mem_append.mp he with he | he
        · have hb : e.1.testBit i = true := by rw [(lvs_same j (i + 1) _ e he i (by omega)).1]; exact bit_at set i
          have hne : x ≠ some i := fun z => by rw [h1 i (by omega) z] at hb; exact absurd hb (by decide)
          have hf : sb (onQ q i) p := by
            have : sb (onQ q i) (laidL q e.1 e.2 (i + 1)) := by rw [lvs_laid he, laid_1 ho]; exact sb_r _ _
            rw [← h2]
            exact sb_trans this (laid_up (by omega))
          have i1 := ih (i + 1) (set ||| 2 ^ i) ov (by omega) (bitS_lt hs) (up1 ho) (hx1 hne) (by rw [laid_1 ho]; exact sb_or hp hf)
          rw [laid_1 ho] at i1
          exact Or.inr (Or.inl ⟨onQ q i, by show strO q x p i = _; unfold strO; rw [if_neg hne, lay_y hf], i1.mpr ⟨e, he, h1, h2⟩⟩)
        · have hb : e.1.testBit i = true := by rw [(lvs_same j (i + 1) _ e he i (by omega)).1]; exact bit_at set i
          have hne : x ≠ some i := fun z => by rw [h1 i (by omega) z] at hb; exact absurd hb (by decide)
          have hf : sb (mirN (onQ q i)) p := by
            have : sb (mirN (onQ q i)) (laidL q e.1 e.2 (i + 1)) := by rw [lvs_laid he, laid_2]; exact sb_r _ _
            rw [← h2]
            exact sb_trans this (laid_up (by omega))
          have i2 := ih (i + 1) (set ||| 2 ^ i) (ov ||| 2 ^ i) (by omega) (bitS_lt hs) (bitS_lt ho) (hx1 hne) (by rw [laid_2]; exact sb_or hp hf)
          rw [laid_2] at i2
          exact Or.inr (Or.inr ⟨mirN (onQ q i), by show turO q x p i = _; unfold turO; rw [if_neg hne, lay_y hf], i2.mpr ⟨e, he, h1, h2⟩⟩)
theorem Cm_reach {q : LQ} {x : Option Nat} {p : Nat} : ∀ j i sh, i + j = q 6 0 → Cm (ldD q x p p) j i sh → sb p (sh ||| (ldD q x p p).2.2.2.1 i) := by
  intro j
  induction j with
  | zero =>
    intro i sh hij h
    have h : sh = p := h
    rw [h]; exact sb_l _ _
  | succ j ih =>
    intro i sh hij h
    have eR : (ldD q x p p).2.2.2.1 i = (ldD q x p p).2.2.2.1 (i + 1) ||| dk (strO q x p i) ||| dk (turO q x p i) := by
      show rchL _ _ _ (q 6 0 - i) = rchL _ _ _ (q 6 0 - (i + 1)) ||| _ ||| _
      rw [show q 6 0 - i = (q 6 0 - (i + 1)) + 1 by omega]
      show rchL _ _ _ (q 6 0 - (i + 1)) ||| dk (strO q x p (q 6 0 - (q 6 0 - (i + 1) + 1))) ||| dk (turO q x p (q 6 0 - (q 6 0 - (i + 1) + 1))) = _
      rw [show q 6 0 - (q 6 0 - (i + 1) + 1) = i by omega]
    have hR : sb ((ldD q x p p).2.2.2.1 (i + 1)) (sh ||| (ldD q x p p).2.2.2.1 i) := by rw [eR]; exact sb_trans (sb_trans (sb_l _ _) (sb_l _ _)) (sb_r _ _)
    rcases h with h | ⟨y, hy, h⟩ | ⟨y, hy, h⟩
    · exact sb_trans (ih _ _ (by omega) h) (sb_or (sb_l _ _) hR)
    · refine sb_trans (ih _ _ (by omega) h) (sb_or (sb_or (sb_l _ _) ?_) hR)
      rw [eR, show strO q x p i = some y from hy]
      exact sb_trans (sb_trans (sb_r _ _) (sb_l _ _)) (sb_r _ _)
    · refine sb_trans (ih _ _ (by omega) h) (sb_or (sb_or (sb_l _ _) ?_) hR)
      rw [eR, show turO q x p i = some y from hy]
      exact sb_trans (sb_r _ _) (sb_r _ _)
theorem shB_Cm {q : LQ} {x : Option Nat} {p : Nat} : ∀ j i sh, i + j = q 6 0 → sb sh p → (shB (ldD q x p p) j i sh = true ↔ Cm (ldD q x p p) j i sh) := by
  intro j
  induction j with
  | zero =>
    intro i sh hij hp
    obtain rfl : i = q 6 0 := by omega
    show (!outB (ldD q x p p) (q 6 0) sh) = true ↔ sh = p
    rw [Bool.not_eq_true', ← Bool.not_eq_true, out_iff, reach_end, Nat.or_zero]
    constructor
    · intro h; exact sb_eq hp (Classical.byContradiction h)
    · intro h z; exact z (by rw [h]; exact sb_refl p)
  | succ j ih =>
    intro i sh hij hp
    unfold shB
    by_cases hO : outB (ldD q x p p) i sh = true
    · rw [if_pos hO]
      constructor
      · intro h; cases h
      · intro h; exact absurd (Cm_reach _ _ _ hij h) (out_iff.mp hO)
    rw [if_neg hO]
    by_cases hn : (ldD q x p p).1 i = none ∧ (ldD q x p p).2.1 i = none
    · rw [if_pos hn, ih (i + 1) sh (by omega) hp]
      constructor
      · intro h; exact Or.inl h
      · intro h
        rcases h with h | ⟨y, hy, -⟩ | ⟨y, hy, -⟩
        · exact h
        · rw [hn.1] at hy; cases hy
        · rw [hn.2] at hy; cases hy
    rw [if_neg hn, Bool.or_eq_true]
    have a1 : onO ((ldD q x p p).1 i) false (fun y => shB (ldD q x p p) j (i + 1) (sh ||| y)) = true ↔ ∃ y, (ldD q x p p).1 i = some y ∧ Cm (ldD q x p p) j (i + 1) (sh ||| y) := by
      cases hf : (ldD q x p p).1 i with
      | none =>
        constructor
        · intro h; cases h
        · rintro ⟨y, hy, -⟩; cases hy
      | some y =>
        have := ih (i + 1) (sh ||| y) (by omega) (sb_or hp (by obtain ⟨-, rfl, g⟩ := str_some hf; exact g))
        constructor
        · intro h; exact ⟨y, rfl, this.mp h⟩
        · rintro ⟨z, hz, h⟩; cases hz; exact this.mpr h
    have a2 : onO ((ldD q x p p).2.1 i) false (fun y => shB (ldD q x p p) j (i + 1) (sh ||| y)) = true ↔ ∃ y, (ldD q x p p).2.1 i = some y ∧ Cm (ldD q x p p) j (i + 1) (sh ||| y) := by
      cases hf : (ldD q x p p).2.1 i with
      | none =>
        constructor
        · intro h; cases h
        · rintro ⟨y, hy, -⟩; cases hy
      | some y =>
        have := ih (i + 1) (sh ||| y) (by omega) (sb_or hp (by obtain ⟨-, rfl, g⟩ := tur_some hf; exact g))
        constructor
        · intro h; exact ⟨y, rfl, this.mp h⟩
        · rintro ⟨z, hz, h⟩; cases hz; exact this.mpr h
    rw [a1, a2]
    constructor
    · intro h; exact Or.inr h
    · intro h
      rcases h with h | h
      · cases hf : (ldD q x p p).1 i with
        | some y => exact Or.inl ⟨y, rfl, Cm_up (show sb y p by obtain ⟨-, rfl, g⟩ := str_some hf; exact g) _ _ _ h⟩
        | none =>
          cases hg : (ldD q x p p).2.1 i with
          | some y => exact Or.inr ⟨y, rfl, Cm_up (show sb y p by obtain ⟨-, rfl, g⟩ := tur_some hg; exact g) _ _ _ h⟩
          | none => exact absurd ⟨hf, hg⟩ hn
      · exact h
theorem okx_iff {q : LQ} {x : Option Nat} (hx : x = none ∨ ∃ i, i < q 6 0 ∧ x = some i) (s : Nat) : okx x s = true ↔ ∀ k, k < q 6 0 → x = some k → s.testBit k = false := by
  rcases hx with rfl | ⟨i, hi, rfl⟩
  · exact ⟨fun _ k _ z => (by cases z), fun _ => rfl⟩
  · show (!s.testBit i) = true ↔ _
    rw [Bool.not_eq_true']
    constructor
    · intro h k _ e; cases e; exact h
    · intro h; exact h i hi rfl
theorem can_eq (q : LQ) : canEq q := by
  intro x hx
  have key : ∀ p, shB (ldD q x p p) (q 6 0) 0 0 = (allE (q 6 0)).any (hitE q x p) := by
    intro p
    rw [Bool.eq_iff_iff, shB_Cm (q 6 0) 0 0 (by omega) (sb_zero p)]
    have := Cm_lvs (q := q) (x := x) (p := p) (q 6 0) 0 0 0 (by omega) (by decide) (by decide) (fun k hk => absurd hk (Nat.not_lt_zero k)) (sb_zero p)
    rw [show Cm (ldD q x p p) (q 6 0) 0 0 ↔ _ from this, List.any_eq_true]
    constructor
    · rintro ⟨e, he, h1, h2⟩
      exact ⟨e, mem_all.mp he, by unfold hitE; rw [(okx_iff hx e.1).mpr h1, h2]; simp⟩
    · rintro ⟨e, he, h⟩
      unfold hitE at h
      rw [Bool.and_eq_true, okx_iff hx] at h
      exact ⟨e, mem_all.mpr he, h.1, by simpa using h.2⟩
  have all : ∀ k, canC q x k = canN q x k := by
    intro k
    induction k with
    | zero => rfl
    | succ k ih =>
      show (if shB (ldD q x (q 5 k) (q 5 k)) (q 6 0) 0 0 = true then canC q x k ||| 2 ^ k else canC q x k) = canN q x k ||| (if (allE (q 6 0)).any (hitE q x (q 5 k)) then 2 ^ k else 0)
      rw [key, ih]
      split
      · rfl
      · rw [Nat.or_zero]
  exact all _
