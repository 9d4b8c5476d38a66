/-! fewest and can: what both find -/
abbrev lexle (a b : Nat × Nat) : Prop := a.1 < b.1 ∨ (a.1 = b.1 ∧ a.2 ≤ b.2)
def hb (q : LQ) (p k : Nat) (e : Nat × Nat) : Bool := decide (laidQ q e.1 e.2 = p) && decide (pop e.1 = k)
def G2 (q : LQ) (p : Nat) (l : List (Nat × Nat)) (F : FF) : Prop := ((F.2.1, F.2.2.1) ∈ l ∧ laidQ q F.2.1 F.2.2.1 = p ∧ pop F.2.1 = F.1) ∧ (∀ e, e ∈ l → laidQ q e.1 e.2 = p → F.1 ≤ pop e.1 ∧ (pop e.1 = F.1 → lexle (F.2.1, F.2.2.1) e)) ∧ F.2.2.2 = l.countP (hb q p F.1)
theorem cnt_end {q : LQ} {p k : Nat} {l : List (Nat × Nat)} {e : Nat × Nat} : (l ++ [e]).countP (hb q p k) = l.countP (hb q p k) + oneI (hb q p k e) := by
  rw [List.countP_append, List.countP_cons, List.countP_nil]
  cases hb q p k e <;> rfl
theorem G2_miss {q : LQ} {p : Nat} {l : List (Nat × Nat)} {F : FF} (h : G2 q p l F) {e : Nat × Nat} (he : ¬ laidQ q e.1 e.2 = p) : G2 q p (l ++ [e]) F := by
  obtain ⟨⟨h1, h2, h3⟩, h4, h5⟩ := h
  refine ⟨⟨List.mem_append.mpr (Or.inl h1), h2, h3⟩, fun x hx hh => ?_, ?_⟩
  · rcases List.mem_append.mp hx with hx | hx
    · exact h4 x hx hh
    · rw [List.mem_singleton.mp hx] at hh; exact absurd hh he
  · rw [cnt_end, h5, show hb q p F.1 e = false from by unfold hb; rw [decide_eq_false he]; rfl]; rfl
theorem G2_more {q : LQ} {p : Nat} {l : List (Nat × Nat)} {F : FF} (h : G2 q p l F) {e : Nat × Nat} (hk : F.1 < pop e.1) : G2 q p (l ++ [e]) F := by
  obtain ⟨⟨h1, h2, h3⟩, h4, h5⟩ := h
  refine ⟨⟨List.mem_append.mpr (Or.inl h1), h2, h3⟩, fun x hx hh => ?_, ?_⟩
  · rcases List.mem_append.mp hx with hx | hx
    · exact h4 x hx hh
    · rw [List.mem_singleton.mp hx]
      exact ⟨by omega, fun z => by omega⟩
  · rw [cnt_end, h5, show hb q p F.1 e = false from by unfold hb; rw [decide_eq_false (show ¬ pop e.1 = F.1 by omega), Bool.and_false]]; rfl
theorem G2_first {q : LQ} {p : Nat} {l : List (Nat × Nat)} {e : Nat × Nat} (he : laidQ q e.1 e.2 = p) (hl : ∀ x, x ∈ l → laidQ q x.1 x.2 = p → pop e.1 < pop x.1) : G2 q p (l ++ [e]) (pop e.1, e.1, e.2, 1) := by
  refine ⟨⟨List.mem_append.mpr (Or.inr (List.mem_singleton.mpr rfl)), he, rfl⟩, fun x hx hh => ?_, ?_⟩
  · rcases List.mem_append.mp hx with hx | hx
    · have := hl x hx hh
      exact ⟨by show pop e.1 ≤ _; omega, fun z => by have z : pop x.1 = pop e.1 := z; omega⟩
    · rw [List.mem_singleton.mp hx]
      exact ⟨Nat.le_refl _, fun _ => Or.inr ⟨rfl, Nat.le_refl _⟩⟩
  · rw [cnt_end]
    have h0 : l.countP (hb q p (pop e.1)) = 0 := by
      rw [List.countP_eq_zero]
      intro x hx z
      unfold hb at z
      rw [Bool.and_eq_true, decide_eq_true_eq, decide_eq_true_eq] at z
      have := hl x hx z.1
      omega
    show 1 = l.countP (hb q p (pop e.1)) + oneI (hb q p (pop e.1) e)
    rw [h0, show hb q p (pop e.1) e = true from by unfold hb; rw [decide_eq_true he, decide_eq_true rfl]; rfl]
    rfl
theorem G2_same {q : LQ} {p : Nat} {l : List (Nat × Nat)} {F : FF} (h : G2 q p l F) {e : Nat × Nat} (he : laidQ q e.1 e.2 = p) (hk : pop e.1 = F.1) {y : Nat × Nat} (hy : y = e ∨ y = (F.2.1, F.2.2.1)) (hy1 : lexle y e) (hy2 : lexle y (F.2.1, F.2.2.1)) : G2 q p (l ++ [e]) (F.1, y.1, y.2, F.2.2.2 + 1) := by
  obtain ⟨⟨h1, h2, h3⟩, h4, h5⟩ := h
  refine ⟨?_, fun x hx hh => ?_, ?_⟩
  · rcases hy with rfl | rfl
    · exact ⟨List.mem_append.mpr (Or.inr (List.mem_singleton.mpr rfl)), he, hk⟩
    · exact ⟨List.mem_append.mpr (Or.inl h1), h2, h3⟩
  · rcases List.mem_append.mp hx with hx | hx
    · obtain ⟨g1, g2⟩ := h4 x hx hh
      refine ⟨g1, fun z => ?_⟩
      have g3 := g2 z
      show lexle y x
      unfold lexle at *
      dsimp only at hy2 g3
      omega
    · rw [List.mem_singleton.mp hx]
      exact ⟨by show F.1 ≤ _; omega, fun _ => hy1⟩
  · rw [cnt_end]
    show F.2.2.2 + 1 = l.countP (hb q p F.1) + _
    rw [h5, show hb q p F.1 e = true from by unfold hb; rw [decide_eq_true he, decide_eq_true hk]; rfl]
    rfl
def PF (q : LQ) (p : Nat) (l : List (Nat × Nat)) (F : FF) : Prop := (F = (9, 0, 0, 0) ∧ ∀ e, e ∈ l → ¬ laidQ q e.1 e.2 = p) ∨ G2 q p l F
theorem no_end {q : LQ} {p : Nat} {l : List (Nat × Nat)} (h : ∀ e, e ∈ l → ¬ laidQ q e.1 e.2 = p) {e : Nat × Nat} (he : ¬ laidQ q e.1 e.2 = p) : ∀ x, x ∈ l ++ [e] → ¬ laidQ q x.1 x.2 = p := by
  intro x hx
  rcases List.mem_append.mp hx with hx | hx
  · exact h x hx
  · rw [List.mem_singleton.mp hx]; exact he
theorem PF_s {q : LQ} {p : Nat} {l : List (Nat × Nat)} {F : FF} (h : PF q p l F) {e : Nat × Nat} (h8 : pop e.1 ≤ 8) : PF q p (l ++ [e]) (stF q p F e) := by
  unfold stF
  by_cases he : laidQ q e.1 e.2 = p
  · rw [if_pos he]
    rcases h with ⟨rfl, h⟩ | h
    · rw [if_neg (show ¬ ((9, 0, 0, 0) : FF).1 < pop e.1 from fun z => by have z : 9 < pop e.1 := z; omega)]
      refine Or.inr ?_
      have : noteF (9, 0, 0, 0) e.1 e.2 = (pop e.1, e.1, e.2, 1) := by
        unfold noteF
        dsimp only
        rw [if_pos (Or.inl (show pop e.1 < 9 by omega)), if_pos (Or.inl (show pop e.1 < 9 by omega)), if_pos (show pop e.1 < 9 by omega)]
      rw [this]
      exact G2_first he (fun x hx hh => absurd hh (h x hx))
    · refine Or.inr ?_
      by_cases hk : F.1 < pop e.1
      · rw [if_pos hk]
        exact G2_more h hk
      · rw [if_neg hk]
        by_cases hk2 : pop e.1 < F.1
        · have : noteF F e.1 e.2 = (pop e.1, e.1, e.2, 1) := by
            unfold noteF
            rw [if_pos (Or.inl hk2), if_pos (Or.inl hk2), if_pos hk2]
          rw [this]
          exact G2_first he (fun x hx hh => by have := (h.2.1 x hx hh).1; omega)
        · have hk3 : pop e.1 = F.1 := by omega
          have : noteF F e.1 e.2 = (F.1, (if e.1 < F.2.1 ∨ (e.1 = F.2.1 ∧ e.2 < F.2.2.1) then e else (F.2.1, F.2.2.1)).1, (if e.1 < F.2.1 ∨ (e.1 = F.2.1 ∧ e.2 < F.2.2.1) then e else (F.2.1, F.2.2.1)).2, F.2.2.2 + 1) := by
            unfold noteF
            rw [hk3, if_neg (show ¬ F.1 < F.1 by omega)]
            by_cases c : e.1 < F.2.1 ∨ (e.1 = F.2.1 ∧ e.2 < F.2.2.1)
            · rw [if_pos c, if_pos (Or.inr c), if_pos (Or.inr c)]
            · rw [if_neg c, if_neg (fun z => c (z.resolve_left (by omega))), if_neg (fun z => c (z.resolve_left (by omega)))]
          rw [this]
          by_cases c : e.1 < F.2.1 ∨ (e.1 = F.2.1 ∧ e.2 < F.2.2.1)
          · rw [if_pos c]
            exact G2_same h he hk3 (Or.inl rfl) (Or.inr ⟨rfl, Nat.le_refl _⟩) (by unfold lexle; dsimp only; omega)
          · rw [if_neg c]
            exact G2_same h he hk3 (Or.inr rfl) (by unfold lexle; dsimp only; omega) (Or.inr ⟨rfl, Nat.le_refl _⟩)
  · rw [if_neg he]
    rcases h with ⟨rfl, h⟩ | h
    · exact Or.inl ⟨rfl, no_end h he⟩
    · exact Or.inr (G2_miss h he)
def PFo (q : LQ) (p : Nat) (l : List (Nat × Nat)) (o : Option FF) : Prop := match o with
  | none => ∀ e, e ∈ l → ¬ laidQ q e.1 e.2 = p
  | some F => G2 q p l F
theorem PFo_s {q : LQ} (hq : okS q) {p : Nat} (hp : p < 65536) {l : List (Nat × Nat)} {T : FT} (h : PFo q p l T.2.2) {e : Nat × Nat} (hl : ∀ x, x ∈ l → lexle x e) : PFo q p (l ++ [e]) (tell q p T e).2.2 := by
  by_cases he : laidQ q e.1 e.2 = p
  · rw [tell_hit hq hp he]
    dsimp only
    cases hT : T.2.2 with
    | none =>
      rw [hT] at h
      exact G2_first he (fun x hx hh => absurd hh (h x hx))
    | some F =>
      obtain ⟨k, s, o, w⟩ := F
      rw [hT] at h
      have h : G2 q p l (k, s, o, w) := h
      show PFo q p (l ++ [e]) (if k < pop e.1 then some (k, s, o, w) else if pop e.1 = k then some (k, s, o, w + 1) else some (pop e.1, e.1, e.2, 1))
      by_cases hk : k < pop e.1
      · rw [if_pos hk]
        exact G2_more h hk
      · rw [if_neg hk]
        by_cases hk2 : pop e.1 = k
        · rw [if_pos hk2]
          exact G2_same (y := (s, o)) h he hk2 (Or.inr rfl) (hl _ h.1.1) (Or.inr ⟨rfl, Nat.le_refl _⟩)
        · rw [if_neg hk2]
          exact G2_first he (fun x hx hh => by have : k ≤ pop x.1 := (h.2.1 x hx hh).1; omega)
  · rw [tell_miss hq hp he]
    cases hT : T.2.2 with
    | none =>
      rw [hT] at h
      exact no_end h he
    | some F =>
      rw [hT] at h
      exact G2_miss h he
theorem row_mem {s k : Nat} {e : Nat × Nat} (h : e ∈ rowE s k) : e.1 = s ∧ e.2 < k := by
  unfold rowE at h
  obtain ⟨o, ho, rfl⟩ := List.mem_map.mp h
  exact ⟨rfl, List.mem_range.mp (List.mem_filter.mp ho).1⟩
theorem pre_mem : ∀ k e, e ∈ preE k → e.1 < k
  | 0, e, h => absurd h (List.not_mem_nil)
  | k + 1, e, h => by
    rw [preE_s] at h
    rcases List.mem_append.mp h with h | h
    · have := pre_mem k e h; omega
    · have := (row_mem h).1; omega
theorem row_sorted (s : Nat) : ∀ k, (rowE s k).Pairwise lexle
  | 0 => List.Pairwise.nil
  | k + 1 => by
    cases h : subB k s with
    | true =>
      rw [rowE_s h, List.pairwise_append]
      refine ⟨row_sorted s k, List.pairwise_singleton _ _, fun a ha b hbb => ?_⟩
      rw [List.mem_singleton.mp hbb]
      have := row_mem ha
      exact Or.inr ⟨this.1, by show a.2 ≤ k; omega⟩
    | false => rw [rowE_n h]; exact row_sorted s k
theorem pre_sorted : ∀ k, (preE k).Pairwise lexle
  | 0 => List.Pairwise.nil
  | k + 1 => by
    rw [preE_s, List.pairwise_append]
    refine ⟨pre_sorted k, row_sorted k _, fun a ha b hbb => Or.inl ?_⟩
    have h1 := pre_mem k a ha
    have h2 := (row_mem hbb).1
    omega
theorem few_eq {q : LQ} (hq : okS q) : fewEq q := by
  intro p hp k hk
  have h8 := hq.1
  have p8 : ∀ e, e ∈ allE (q 6 0) → pop e.1 ≤ 8 := by
    intro e he
    have h1 : e.1 < 2 ^ 8 := Nat.lt_of_lt_of_le (pre_mem _ e he) (Nat.pow_le_pow_right (by decide) h8)
    have h2 := popL_ge h1 8
    have h3 := popL_le e.1 8
    show popL e.1 16 ≤ 8
    rw [show (16 : Nat) = 8 + 8 from rfl, h2]
    exact h3
  have h1 : PF q p (lvs (q 6 0) 0 (0, 0)) (fewF q p) := by
    unfold fewF
    have := skF_fold (q := q) (p := p) (q 6 0) 0 0 0 (9, 0, 0, 0) (by omega) (by decide) (by decide) (sb_zero p)
    rw [show skF (ldD q none p p) (q 6 0) 0 0 0 0 (9, 0, 0, 0) = _ from this]
    exact fold_inv (P := PF q p) (fun pre e post b hL hbb => PF_s hbb (p8 e (mem_all.mp (by rw [hL]; exact List.mem_append.mpr (Or.inr (List.mem_cons_self)))))) _ [] (9, 0, 0, 0) rfl (Or.inl ⟨rfl, fun e he => absurd he (List.not_mem_nil)⟩)
  have h2 : PFo q p (allE (q 6 0)) (findQ q p).2.2 := by
    unfold findQ
    refine fold_inv (P := fun l (T : FT) => PFo q p l T.2.2) (fun pre e post b hL hbb => PFo_s hq hp hbb (fun x hx => ?_)) _ [] (16, none, none) rfl (fun e he => absurd he (List.not_mem_nil))
    have hs := pre_sorted (2 ^ q 6 0)
    rw [show preE (2 ^ q 6 0) = pre ++ e :: post from hL, List.pairwise_append] at hs
    exact hs.2.2 x hx e (List.mem_cons_self)
  generalize fewF q p = F at h1
  cases hT : (findQ q p).2.2 with
  | none =>
    rw [hT] at h2
    rcases h1 with ⟨rfl, -⟩ | h1
    · rfl
    · exact absurd h1.1.2.1 (h2 _ (mem_all.mp h1.1.1))
  | some F' =>
    rw [hT] at h2
    have h2 : G2 q p (allE (q 6 0)) F' := h2
    rcases h1 with ⟨-, h1⟩ | h1
    · exact absurd h2.1.2.1 (h1 _ (mem_all.mpr h2.1.1))
    · have hpos : 0 < F.2.2.2 := by
        rw [h1.2.2, List.countP_pos_iff]
        exact ⟨_, h1.1.1, by unfold hb; rw [decide_eq_true h1.1.2.1, decide_eq_true h1.1.2.2]; rfl⟩
      obtain ⟨u1, u2⟩ := h1.2.1 _ (mem_all.mpr h2.1.1) h2.1.2.1
      obtain ⟨v1, v2⟩ := h2.2.1 _ (mem_all.mp h1.1.1) h1.1.2.1
      have e1 : F.1 = F'.1 := by
        have a := h1.1.2.2
        have b := h2.1.2.2
        dsimp only at u1 v1
        omega
      have w1 := u2 (by have b := h2.1.2.2; dsimp only; omega)
      have w2 := v2 (by have b := h1.1.2.2; dsimp only; omega)
      unfold lexle at w1 w2
      dsimp only at w1 w2
      have e2 : F.2.1 = F'.2.1 := by omega
      have e3 : F.2.2.1 = F'.2.2.1 := by omega
      have e4 : F.2.2.2 = F'.2.2.2 := by rw [h1.2.2, h2.2.2, e1, cnt_all]
      have e5 : F = F' := Prod.ext e1 (Prod.ext e2 (Prod.ext e3 e4))
      rw [if_pos hpos, e5]
