/-! what both find -/
theorem fold_inv {α β : Type} {f : β → α → β} {P : List α → β → Prop} {L : List α} (hs : ∀ pre e post b, L = pre ++ e :: post → P pre b → P (pre ++ [e]) (f b e)) : ∀ post pre b, L = pre ++ post → P pre b → P L (post.foldl f b)
  | [], pre, b, h, hp => by
    rw [h, List.append_nil]
    exact hp
  | e :: post, pre, b, h, hp => fold_inv hs post (pre ++ [e]) (f b e) (by rw [h, List.append_assoc]; rfl) (hs pre e post b h hp)
theorem un_0 {q : LQ} (hq : okS q) {p : Nat} (hp : p < 65536) (e : Nat × Nat) : 0 < pop (laidQ q e.1 e.2 ^^^ p) ↔ ¬ laidQ q e.1 e.2 = p := by
  constructor
  · intro h z
    rw [z, Nat.xor_self] at h
    exact absurd h (by decide)
  · intro h
    refine pop_pos (Nat.xor_lt_two_pow (n := 16) (laidQ_lt hq _ _) hp) (fun z => h ?_)
    exact Nat.eq_of_testBit_eq (fun k => by
      have := congrArg (fun y => y.testBit k) z
      simp only [Nat.testBit_xor, Nat.zero_testBit] at this
      revert this
      cases (laidQ q e.1 e.2).testBit k <;> cases p.testBit k <;> decide)
theorem laid_start (q : LQ) : laidL q 0 0 0 = 0 := rfl
theorem sb_zero (p : Nat) : sb 0 p := fun k hk => by rw [Nat.zero_testBit] at hk; exact absurd hk (by decide)
/-- near -/
def PN (q : LQ) (p t : Nat) (l : List (Nat × Nat)) (m : Nat) : Prop := m ≤ t ∧ (∀ e, e ∈ l → m ≤ pop (laidQ q e.1 e.2 ^^^ p)) ∧ (m = t ∨ ∃ e, e ∈ l ∧ pop (laidQ q e.1 e.2 ^^^ p) = m)
theorem PN_s {q : LQ} {p t m : Nat} {l : List (Nat × Nat)} (h : PN q p t l m) (e : Nat × Nat) : PN q p t (l ++ [e]) (if m ≤ pop (laidQ q e.1 e.2 ^^^ p) then m else pop (laidQ q e.1 e.2 ^^^ p)) := by
  obtain ⟨h1, h2, h3⟩ := h
  by_cases hm : m ≤ pop (laidQ q e.1 e.2 ^^^ p)
  · rw [if_pos hm]
    refine ⟨h1, fun x hx => ?_, ?_⟩
    · rcases List.mem_append.mp hx with hx | hx
      · exact h2 x hx
      · rw [List.mem_singleton.mp hx]; exact hm
    · rcases h3 with h3 | ⟨x, hx, h3⟩
      · exact Or.inl h3
      · exact Or.inr ⟨x, List.mem_append.mpr (Or.inl hx), h3⟩
  · rw [if_neg hm]
    refine ⟨by omega, fun x hx => ?_, Or.inr ⟨e, List.mem_append.mpr (Or.inr (List.mem_singleton.mpr rfl)), rfl⟩⟩
    rcases List.mem_append.mp hx with hx | hx
    · have := h2 x hx; omega
    · rw [List.mem_singleton.mp hx]; exact Nat.le_refl _
theorem tell_1 (q : LQ) (p : Nat) (T : FT) (e : Nat × Nat) : (tell q p T e).1 = if T.1 ≤ pop (laidQ q e.1 e.2 ^^^ p) then T.1 else pop (laidQ q e.1 e.2 ^^^ p) := by
  have : (tell q p T e).1 = if pop (laidQ q e.1 e.2 ^^^ p) < T.1 then pop (laidQ q e.1 e.2 ^^^ p) else T.1 := by
    unfold tell
    dsimp only
    split <;> rfl
  rw [this]
  by_cases h : pop (laidQ q e.1 e.2 ^^^ p) < T.1
  · rw [if_pos h, if_neg (by omega)]
  · rw [if_neg h, if_pos (by omega)]
theorem near_eq {q : LQ} (hq : okS q) : neaEq q := by
  intro p hp
  have h1 : PN q p 17 (lvs (q 6 0) 0 (0, 0)) (neaN q p) := by
    unfold neaN
    have := skN_fold hq (p := p) (q 6 0) 0 0 0 17 (by omega) (by decide) (by decide)
    rw [show skN (ldD q none p 65535) (q 6 0) 0 0 17 = _ from this]
    exact fold_inv (P := PN q p 17) (fun pre e post b _ hb => PN_s hb e) _ [] 17 rfl ⟨Nat.le_refl _, fun e he => absurd he (List.not_mem_nil), Or.inl rfl⟩
  have h2 : PN q p 16 (allE (q 6 0)) (findQ q p).1 := by
    unfold findQ
    exact fold_inv (P := fun l (T : FT) => PN q p 16 l T.1) (fun pre e post b _ hb => by show PN q p 16 _ (tell q p b e).1; rw [tell_1]; exact PN_s hb e) _ [] (16, none, none) rfl ⟨Nat.le_refl _, fun e he => absurd he (List.not_mem_nil), Or.inl rfl⟩
  obtain ⟨a1, a2, a3⟩ := h1
  obtain ⟨c1, c2, c3⟩ := h2
  have hne : ∃ e, e ∈ lvs (q 6 0) 0 (0, 0) := by
    have key : ∀ j i x, ∃ e, e ∈ lvs j i x := by
      intro j
      induction j with
      | zero => intro i x; exact ⟨x, List.mem_singleton.mpr rfl⟩
      | succ j ih =>
        intro i x
        obtain ⟨e, he⟩ := ih (i + 1) x
        exact ⟨e, List.mem_append.mpr (Or.inl he)⟩
    exact key _ _ _
  obtain ⟨e0, he0⟩ := hne
  have b0 := a2 e0 he0
  have b1 := pop_le (laidQ q e0.1 e0.2 ^^^ p)
  rcases a3 with a3 | ⟨e, he, a3⟩
  · omega
  · have d1 := c2 e (mem_all.mp he)
    rcases c3 with c3 | ⟨x, hx, c3⟩
    · omega
    · have d2 := a2 x (mem_all.mpr hx)
      omega
/-- cheapest -/
def PC (q : LQ) (p : Nat) (l : List (Nat × Nat)) (m : Nat) : Prop := m ≤ 1000 ∧ (∀ e, e ∈ l → laidQ q e.1 e.2 = p → m ≤ costL q e.1 (q 6 0)) ∧ (m = 1000 ∨ ∃ e, e ∈ l ∧ laidQ q e.1 e.2 = p ∧ costL q e.1 (q 6 0) = m)
def PO (q : LQ) (p : Nat) (l : List (Nat × Nat)) (o : Option Nat) : Prop := match o with
  | none => ∀ e, e ∈ l → ¬ laidQ q e.1 e.2 = p
  | some m => (∀ e, e ∈ l → laidQ q e.1 e.2 = p → m ≤ costL q e.1 (q 6 0)) ∧ ∃ e, e ∈ l ∧ laidQ q e.1 e.2 = p ∧ costL q e.1 (q 6 0) = m
theorem PC_s {q : LQ} {p m : Nat} {l : List (Nat × Nat)} (h : PC q p l m) (e : Nat × Nat) : PC q p (l ++ [e]) (stC q p m e) := by
  obtain ⟨h1, h2, h3⟩ := h
  have old : (m = 1000 ∨ ∃ x, x ∈ l ++ [e] ∧ laidQ q x.1 x.2 = p ∧ costL q x.1 (q 6 0) = m) := by
    rcases h3 with h3 | ⟨x, hx, h3⟩
    · exact Or.inl h3
    · exact Or.inr ⟨x, List.mem_append.mpr (Or.inl hx), h3⟩
  unfold stC
  by_cases he : laidQ q e.1 e.2 = p
  · rw [if_pos he]
    by_cases hm : m ≤ costL q e.1 (q 6 0)
    · rw [if_pos hm]
      refine ⟨h1, fun x hx hh => ?_, old⟩
      rcases List.mem_append.mp hx with hx | hx
      · exact h2 x hx hh
      · rw [List.mem_singleton.mp hx]; exact hm
    · rw [if_neg hm]
      refine ⟨by omega, fun x hx hh => ?_, Or.inr ⟨e, List.mem_append.mpr (Or.inr (List.mem_singleton.mpr rfl)), he, rfl⟩⟩
      rcases List.mem_append.mp hx with hx | hx
      · have := h2 x hx hh; omega
      · rw [List.mem_singleton.mp hx]; exact Nat.le_refl _
  · rw [if_neg he]
    refine ⟨h1, fun x hx hh => ?_, old⟩
    rcases List.mem_append.mp hx with hx | hx
    · exact h2 x hx hh
    · rw [List.mem_singleton.mp hx] at hh; exact absurd hh he
theorem tell_miss {q : LQ} (hq : okS q) {p : Nat} (hp : p < 65536) {T : FT} {e : Nat × Nat} (h : ¬ laidQ q e.1 e.2 = p) : (tell q p T e).2 = T.2 := by
  unfold tell
  dsimp only
  rw [if_pos ((un_0 hq hp e).mpr h)]
theorem tell_hit {q : LQ} (hq : okS q) {p : Nat} (hp : p < 65536) {T : FT} {e : Nat × Nat} (h : laidQ q e.1 e.2 = p) : (tell q p T e).2 = ((match T.2.1 with
    | none => some (costL q e.1 (q 6 0))
    | some c => some (if costL q e.1 (q 6 0) < c then costL q e.1 (q 6 0) else c)),
   match T.2.2 with
    | none => some (pop e.1, e.1, e.2, 1)
    | some (k, s, o, w) => if k < pop e.1 then some (k, s, o, w) else if pop e.1 = k then some (k, s, o, w + 1) else some (pop e.1, e.1, e.2, 1)) := by
  unfold tell
  dsimp only
  rw [if_neg (fun z => (un_0 hq hp e).mp z h)]
  rfl
theorem PO_s {q : LQ} (hq : okS q) {p : Nat} (hp : p < 65536) {l : List (Nat × Nat)} {T : FT} (h : PO q p l T.2.1) (e : Nat × Nat) : PO q p (l ++ [e]) (tell q p T e).2.1 := by
  by_cases he : laidQ q e.1 e.2 = p
  · rw [tell_hit hq hp he]
    dsimp only
    cases hT : T.2.1 with
    | none =>
      rw [hT] at h
      refine ⟨fun x hx hh => ?_, e, List.mem_append.mpr (Or.inr (List.mem_singleton.mpr rfl)), he, rfl⟩
      rcases List.mem_append.mp hx with hx | hx
      · exact absurd hh (h x hx)
      · rw [List.mem_singleton.mp hx]; exact Nat.le_refl _
    | some c =>
      rw [hT] at h
      obtain ⟨h2, x0, hx0, h3, h4⟩ := h
      show PO q p (l ++ [e]) (some (if costL q e.1 (q 6 0) < c then costL q e.1 (q 6 0) else c))
      by_cases hm : costL q e.1 (q 6 0) < c
      · rw [if_pos hm]
        refine ⟨fun x hx hh => ?_, e, List.mem_append.mpr (Or.inr (List.mem_singleton.mpr rfl)), he, rfl⟩
        rcases List.mem_append.mp hx with hx | hx
        · have := h2 x hx hh; omega
        · rw [List.mem_singleton.mp hx]; exact Nat.le_refl _
      · rw [if_neg hm]
        refine ⟨fun x hx hh => ?_, x0, List.mem_append.mpr (Or.inl hx0), h3, h4⟩
        rcases List.mem_append.mp hx with hx | hx
        · exact h2 x hx hh
        · rw [List.mem_singleton.mp hx]; omega
  · rw [tell_miss hq hp he]
    cases hT : T.2.1 with
    | none =>
      rw [hT] at h
      intro x hx
      rcases List.mem_append.mp hx with hx | hx
      · exact h x hx
      · rw [List.mem_singleton.mp hx]; exact he
    | some c =>
      rw [hT] at h
      obtain ⟨h2, x0, hx0, h3, h4⟩ := h
      refine ⟨fun x hx hh => ?_, x0, List.mem_append.mpr (Or.inl hx0), h3, h4⟩
      rcases List.mem_append.mp hx with hx | hx
      · exact h2 x hx hh
      · rw [List.mem_singleton.mp hx] at hh; exact absurd hh he
theorem che_eq {q : LQ} (hq : okS q) : cheEq q := by
  intro p hp
  have h8 := hq.1
  have h1 : PC q p (lvs (q 6 0) 0 (0, 0)) (cheC q p) := by
    unfold cheC
    have := skC_fold (q := q) (p := p) (q 6 0) 0 0 0 1000 (by omega) (by decide) (by decide) (sb_zero p)
    rw [show skC (ldD q none p p) (q 6 0) 0 0 0 1000 = _ from this]
    exact fold_inv (P := PC q p) (fun pre e post b _ hb => PC_s hb e) _ [] 1000 rfl ⟨Nat.le_refl _, fun e he => absurd he (List.not_mem_nil), Or.inl rfl⟩
  have h2 : PO q p (allE (q 6 0)) (findQ q p).2.1 := by
    unfold findQ
    exact fold_inv (P := fun l (T : FT) => PO q p l T.2.1) (fun pre e post b _ hb => PO_s hq hp hb e) _ [] (16, none, none) rfl (fun e he => absurd he (List.not_mem_nil))
  obtain ⟨a1, a2, a3⟩ := h1
  cases hT : (findQ q p).2.1 with
  | none =>
    rw [hT] at h2
    rcases a3 with a3 | ⟨e, he, a3, -⟩
    · rw [if_pos a3]; rfl
    · exact absurd a3 (h2 e (mem_all.mp he))
  | some c =>
    rw [hT] at h2
    obtain ⟨c2, x, hx, c3, c4⟩ := h2
    have hc := cost_le hq x.1 (q 6 0) (Nat.le_refl _)
    have d := a2 x (mem_all.mpr hx) c3
    rcases a3 with a3 | ⟨e, he, a3, a4⟩
    · omega
    · have d2 := c2 e (mem_all.mp he) a3
      have hc2 := cost_le hq e.1 (q 6 0) (Nat.le_refl _)
      rw [if_neg (by omega)]
      show nI _ = nI c
      rw [show cheC q p = c by omega]
