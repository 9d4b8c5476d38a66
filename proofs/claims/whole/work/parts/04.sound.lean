/-! SOUNDNESS of the abstract machine: what it says of a method, the real machine does (Met). -/
def xcV (ad : Nat → Nat) : Value → Value
  | .ref a => .ref (ad a)
  | v => v
theorem xcV_cat (ad : Nat → Nat) (v : Value) : (xcV ad v).category = v.category := by cases v <;> rfl
def xcE (ad : Nat → Nat) (cI : ClassId) : xE → va_E
  | .inl (n, f) => .inl (cI, n, .inl f)
  | .inr (c, fs) => .inr (c, fs.map (xcV ad))
def xcH (ad : Nat → Nat) (cI : ClassId) : Nat → xH → va_W
  | _, [] => []
  | i, e :: t => (ad i, xcE ad cI e) :: xcH ad cI (i + 1) t
theorem xcH_get (ad : Nat → Nat) (cI : ClassId) : ∀ (ws : xH) (i k : Nat), (xcH ad cI i ws)[k]? = ws[k]?.map (fun e => (ad (i + k), xcE ad cI e))
  | [], _, _ => by simp [xcH]
  | e :: t, i, 0 => by simp [xcH]
  | e :: t, i, k + 1 => by
    simp only [xcH, List.getElem?_cons_succ]
    rw [xcH_get ad cI t (i + 1) k, show i + 1 + k = i + (k + 1) by omega]
theorem xcH_at {ad : Nat → Nat} {cI : ClassId} {ws : xH} {k : Nat} {e : xE} (h : xnth ws k = some e) : (xcH ad cI 0 ws)[k]? = some (ad k, xcE ad cI e) := by
  rw [xnth_eq] at h
  rw [xcH_get, h, Nat.zero_add]; rfl
theorem xcH_of {ad : Nat → Nat} {cI : ClassId} {ws : xH} {k : Nat} {q : Nat × va_E} (h : (xcH ad cI 0 ws)[k]? = some q) : ∃ e, xnth ws k = some e ∧ q = (ad k, xcE ad cI e) := by
  rw [xcH_get, Nat.zero_add] at h
  cases hw : ws[k]? with
  | none => rw [hw] at h; cases h
  | some e =>
    rw [hw] at h
    exact ⟨e, by rw [xnth_eq]; exact hw, (Option.some.inj h).symm⟩
theorem xcH_set (ad : Nat → Nat) (cI : ClassId) (e : xE) : ∀ (ws : xH) (i k : Nat), xcH ad cI i (ws.set k e) = (xcH ad cI i ws).set k (ad (i + k), xcE ad cI e)
  | [], _, _ => by simp [xcH]
  | a :: t, i, 0 => by simp [xcH]
  | a :: t, i, k + 1 => by
    simp only [xcH, List.set_cons_succ]
    rw [xcH_set ad cI e t (i + 1) k, show i + 1 + k = i + (k + 1) by omega]
/-- locals -/
def xRl (ad : Nat → Nat) (ls : Array Slot) (loc : xL) : Prop := ls.size = loc.length ∧ lv_wf ls ∧ ∀ (i : Nat) (v : Value), loc[i]? = some (some v) → ls[i]? = some (.val (xcV ad v))
def xlp (ad : Nat → Nat) : Nat → xL → List (Nat × Value)
  | _, [] => []
  | i, some v :: t => (i, xcV ad v) :: xlp ad (i + 1) t
  | i, none :: t => xlp ad (i + 1) t
theorem xlp_in (ad : Nat → Nat) : ∀ (loc : xL) (i j : Nat) (v : Value), loc[j]? = some (some v) → (i + j, xcV ad v) ∈ xlp ad i loc
  | [], _, _, _, h => by simp at h
  | some w :: t, i, 0, v, h => by
    simp only [List.getElem?_cons_zero, Option.some.injEq] at h
    subst h
    exact List.mem_cons_self
  | none :: t, i, 0, v, h => by simp at h
  | some w :: t, i, j + 1, v, h => by
    rw [List.getElem?_cons_succ] at h
    have := xlp_in ad t (i + 1) j v h
    rw [show i + 1 + j = i + (j + 1) by omega] at this
    exact List.mem_cons_of_mem _ this
  | none :: t, i, j + 1, v, h => by
    rw [List.getElem?_cons_succ] at h
    have := xlp_in ad t (i + 1) j v h
    rw [show i + 1 + j = i + (j + 1) by omega] at this
    exact this
theorem xlp_of (ad : Nat → Nat) : ∀ (loc : xL) (i : Nat) (q : Nat × Value), q ∈ xlp ad i loc → ∃ j v, q = (i + j, xcV ad v) ∧ loc[j]? = some (some v)
  | [], _, _, h => by cases h
  | some w :: t, i, q, h => by
    rcases List.mem_cons.mp h with h | h
    · exact ⟨0, w, by rw [h]; rfl, rfl⟩
    · obtain ⟨j, v, h1, h2⟩ := xlp_of ad t (i + 1) q h
      exact ⟨j + 1, v, by rw [h1, show i + 1 + j = i + (j + 1) by omega], by rw [List.getElem?_cons_succ]; exact h2⟩
  | none :: t, i, q, h => by
    obtain ⟨j, v, h1, h2⟩ := xlp_of ad t (i + 1) q h
    exact ⟨j + 1, v, by rw [h1, show i + 1 + j = i + (j + 1) by omega], by rw [List.getElem?_cons_succ]; exact h2⟩
theorem xRl.has {ad : Nat → Nat} {ls : Array Slot} {loc : xL} (h : xRl ad ls loc) : lv_has ls loc.length (xlp ad 0 loc) := by
  refine ⟨h.1, h.2.1, fun q hq => ?_⟩
  obtain ⟨j, v, rfl, h2⟩ := xlp_of ad loc 0 q hq
  rw [Nat.zero_add]
  exact h.2.2 j v h2
theorem xRl.at {ad : Nat → Nat} {ls : Array Slot} {loc : xL} (h : xRl ad ls loc) {i : Nat} {v : Value} (hi : xnth loc i = some (some v)) : ls[i]? = some (.val (xcV ad v)) := h.2.2 i v (by rw [← xnth_eq]; exact hi)
theorem xprev_spec {loc : xL} {i j : Nat} {w : Value} (h : xprev loc i = true) (hj : j + 1 = i) (hw : loc[j]? = some (some w)) : w.category = 1 := by
  subst hj
  simp only [xprev, xnth_eq, hw] at h
  exact Nat.eq_of_beq_eq_true h
theorem xst1_e {loc : xL} {i : Nat} {v : Value} {k : xL → Prop} (h : xst1 loc i v k) : xprev loc i = true ∧ i < loc.length ∧ k (loc.set i (some v)) := by
  unfold xst1 at h
  split at h
  next h1 h2 =>
    rw [xnth_eq] at h2
    exact ⟨h1, (List.getElem?_eq_some_iff.mp h2).1, h⟩
  next => exact h.elim
theorem xst2_e {loc : xL} {i : Nat} {v : Value} {k : xL → Prop} (h : xst2 loc i v k) : xprev loc i = true ∧ i + 1 < loc.length ∧ k ((loc.set i (some v)).set (i + 1) none) := by
  unfold xst2 at h
  split at h
  next h1 h2 =>
    rw [xnth_eq] at h2
    exact ⟨h1, (List.getElem?_eq_some_iff.mp h2).1, h⟩
  next => exact h.elim
theorem xRl.st1 {ad : Nat → Nat} {ls' : Array Slot} {loc : xL} {i : Nat} {v : Value} (hp : xprev loc i = true) (hi : i < loc.length)
    (h : lv_has ls' loc.length ((i, xcV ad v) :: (xlp ad 0 loc).filter (fun q => !(q.1 == i) && !(q.1 + 1 == i && q.2.category == 2)))) : xRl ad ls' (loc.set i (some v)) := by
  refine ⟨by rw [List.length_set]; exact h.1, h.2.1, fun j w hw => ?_⟩
  by_cases hj : j = i
  · subst hj
    rw [List.getElem?_set_self hi] at hw
    cases hw
    exact h.2.2 (j, xcV ad v) List.mem_cons_self
  · rw [List.getElem?_set_ne (Ne.symm hj)] at hw
    have h1 := xlp_in ad loc 0 j w hw
    rw [Nat.zero_add] at h1
    refine h.2.2 (j, xcV ad w) (List.mem_cons_of_mem _ (List.mem_filter.mpr ⟨h1, ?_⟩))
    have e1 : (j == i) = false := by simpa using hj
    by_cases h2 : j + 1 = i
    · have := xprev_spec hp h2 hw
      simp [e1, xcV_cat, this]
    · simp [e1, h2]
theorem xRl.st2 {ad : Nat → Nat} {ls' : Array Slot} {loc : xL} {i : Nat} {v : Value} (hp : xprev loc i = true) (hi : i + 1 < loc.length)
    (h : lv_has ls' loc.length ((i, xcV ad v) :: (xlp ad 0 loc).filter (fun q => !(q.1 == i) && (!(q.1 == i + 1) && !(q.1 + 1 == i && q.2.category == 2))))) : xRl ad ls' ((loc.set i (some v)).set (i + 1) none) := by
  refine ⟨by rw [List.length_set, List.length_set]; exact h.1, h.2.1, fun j w hw => ?_⟩
  by_cases hj1 : j = i + 1
  · subst hj1
    rw [List.getElem?_set_self (by rw [List.length_set]; exact hi)] at hw
    cases hw
  rw [List.getElem?_set_ne (Ne.symm hj1)] at hw
  by_cases hj : j = i
  · subst hj
    rw [List.getElem?_set_self (by omega)] at hw
    cases hw
    exact h.2.2 (j, xcV ad v) List.mem_cons_self
  · rw [List.getElem?_set_ne (Ne.symm hj)] at hw
    have h1 := xlp_in ad loc 0 j w hw
    rw [Nat.zero_add] at h1
    refine h.2.2 (j, xcV ad w) (List.mem_cons_of_mem _ (List.mem_filter.mpr ⟨h1, ?_⟩))
    have e1 : (j == i) = false := by simpa using hj
    have e2 : (j == i + 1) = false := by simpa using hj1
    by_cases h2 : j + 1 = i
    · have := xprev_spec hp h2 hw
      simp [e1, e2, xcV_cat, this]
    · simp [e1, e2, h2]
/-! eliminations of the step's words -/
theorem xii_e {st : List Value} {f : Int32 → Int32 → List Value → Prop} (h : xii st f) : ∃ x y r, st = .int y :: .int x :: r ∧ f x y r := by
  unfold xii at h; split at h
  · exact ⟨_, _, _, rfl, h⟩
  · exact h.elim
theorem xll_e {st : List Value} {f : Int64 → Int64 → List Value → Prop} (h : xll st f) : ∃ x y r, st = .long y :: .long x :: r ∧ f x y r := by
  unfold xll at h; split at h
  · exact ⟨_, _, _, rfl, h⟩
  · exact h.elim
theorem xiload_e {loc : xL} {j : Nat} {f : Value → Prop} (h : xiload loc j f) : ∃ x, xnth loc j = some (some (.int x)) ∧ f (.int x) := by
  unfold xiload at h; split at h
  next h1 => exact ⟨_, h1, h⟩
  · exact h.elim
theorem xaload_e {loc : xL} {j : Nat} {f : Value → Prop} (h : xaload loc j f) : ∃ x, xnth loc j = some (some (.ref x)) ∧ f (.ref x) := by
  unfold xaload at h; split at h
  next h1 => exact ⟨_, h1, h⟩
  · exact h.elim
theorem xlload_e {loc : xL} {j : Nat} {f : Value → Prop} (h : xlload loc j f) : ∃ x, xnth loc j = some (some (.long x)) ∧ f (.long x) := by
  unfold xlload at h; split at h
  next h1 => exact ⟨_, h1, h⟩
  · exact h.elim
theorem xistore_e {loc : xL} {st : List Value} {j : Nat} {f : xL → List Value → Prop} (h : xistore loc st j f) : ∃ x r, st = .int x :: r ∧ xprev loc j = true ∧ j < loc.length ∧ f (loc.set j (some (.int x))) r := by
  unfold xistore at h; split at h
  · exact ⟨_, _, rfl, xst1_e h⟩
  · exact h.elim
theorem xlstore_e {loc : xL} {st : List Value} {j : Nat} {f : xL → List Value → Prop} (h : xlstore loc st j f) : ∃ x r, st = .long x :: r ∧ xprev loc j = true ∧ j + 1 < loc.length ∧ f ((loc.set j (some (.long x))).set (j + 1) none) r := by
  unfold xlstore at h; split at h
  · exact ⟨_, _, rfl, xst2_e h⟩
  · exact h.elim
theorem xcon_e {an : List (Int32 × Nat)} {f : Int32 → Prop} (h : xcon an f) : ∃ v t r, an = (v, t) :: r ∧ f v := by
  unfold xcon at h; split at h
  · exact ⟨_, _, _, rfl, h⟩
  · exact h.elim
theorem xtgt_e {an : List (Int32 × Nat)} {f : Nat → Prop} (h : xtgt an f) : ∃ v t r, an = (v, t) :: r ∧ f t := by
  unfold xtgt at h; split at h
  · exact ⟨_, _, _, rfl, h⟩
  · exact h.elim
theorem xgetf_e {an : List (Int32 × Nat)} {st : List Value} {ws : xH} {f : Value → List Value → Prop} (h : xgetf an st ws f) : ∃ v0 ci v1 sl rr a r fs v, an = (v0, ci) :: (v1, sl) :: rr ∧ st = .ref a :: r ∧ xnth ws a = some (.inr (ci, fs)) ∧ xnth fs sl = some v ∧ f v r := by
  unfold xgetf at h; split at h
  · split at h
    next h1 =>
      split at h
      next h2 h3 =>
        have e := Nat.eq_of_beq_eq_true h2
        subst e
        exact ⟨_, _, _, _, _, _, _, _, _, rfl, rfl, h1, h3, h⟩
      · exact h.elim
    · exact h.elim
  · exact h.elim
theorem xputf_e {an : List (Int32 × Nat)} {st : List Value} {ws : xH} {f : List Value → xH → Prop} (h : xputf an st ws f) : ∃ v0 ci v1 sl v2 ty rr x a r fs w, an = (v0, ci) :: (v1, sl) :: (v2, ty) :: rr ∧ st = .int x :: .ref a :: r ∧ xnth ws a = some (.inr (ci, fs)) ∧ xnth fs sl = some w ∧ (ty = 0 ∨ (ty = 1 ∧ (x = 0 ∨ x = 1))) ∧ f r (ws.set a (.inr (ci, fs.set sl (.int x)))) := by
  unfold xputf at h; split at h
  · split at h
    next h1 =>
      split at h
      next h2 h3 =>
        have e := Nat.eq_of_beq_eq_true h2
        subst e
        exact ⟨_, _, _, _, _, _, _, _, _, _, _, _, rfl, rfl, h1, h3, Or.inl rfl, h⟩
      next h2 h3 =>
        have e := Nat.eq_of_beq_eq_true h2
        subst e
        exact ⟨_, _, _, _, _, _, _, _, _, _, _, _, rfl, rfl, h1, h3, Or.inr ⟨rfl, h.1⟩, h.2⟩
      · exact h.elim
    · exact h.elim
  · exact h.elim
theorem xiald_e {st : List Value} {ws : xH} {f : Value → List Value → Prop} (h : xiald st ws f) : ∃ i a r n g, st = .int i :: .ref a :: r ∧ xnth ws a = some (.inl (n, g)) ∧ vp_in i n ∧ f (.int (g i.toNatClampNeg)) r := by
  unfold xiald at h; split at h
  · split at h
    next h1 => exact ⟨_, _, _, _, _, rfl, h1, h.1, h.2⟩
    · exact h.elim
  · exact h.elim
theorem xiast_e {st : List Value} {ws : xH} {f : List Value → xH → Prop} (h : xiast st ws f) : ∃ x i a r n g, st = .int x :: .int i :: .ref a :: r ∧ xnth ws a = some (.inl (n, g)) ∧ vp_in i n ∧ f r (ws.set a (.inl (n, upd g i.toNatClampNeg x))) := by
  unfold xiast at h; split at h
  · split at h
    next h1 => exact ⟨_, _, _, _, _, _, rfl, h1, h.1, h.2⟩
    · exact h.elim
  · exact h.elim
theorem xalen_e {st : List Value} {ws : xH} {f : Value → List Value → Prop} (h : xalen st ws f) : ∃ a r n g, st = .ref a :: r ∧ xnth ws a = some (.inl (n, g)) ∧ f (.int (Int32.ofNat n)) r := by
  unfold xalen at h; split at h
  · split at h
    next h1 => exact ⟨_, _, _, _, rfl, h1, h⟩
    · exact h.elim
  · exact h.elim
theorem xdup_e {st : List Value} {f : List Value → Prop} (h : xdup st f) : ∃ v r, st = v :: r ∧ v.category = 1 ∧ f (v :: v :: r) := by
  unfold xdup at h; split at h
  · exact ⟨_, _, rfl, rfl, h⟩
  · exact ⟨_, _, rfl, rfl, h⟩
  · exact h.elim
theorem xdup2_e {st : List Value} {f : List Value → Prop} (h : xdup2 st f) : ∃ x y r, st = .int x :: .ref y :: r ∧ f (.int x :: .ref y :: .int x :: .ref y :: r) := by
  unfold xdup2 at h; split at h
  · exact ⟨_, _, _, rfl, h⟩
  · exact h.elim
theorem xcnd_e {an : List (Int32 × Nat)} {st : List Value} {f : Int32 → List Value → Nat → Prop} (h : xcnd an st f) : ∃ v t rr x r, an = (v, t) :: rr ∧ st = .int x :: r ∧ f x r t := by
  unfold xcnd at h; split at h
  · exact ⟨_, _, _, _, _, rfl, rfl, h⟩
  · exact h.elim
theorem xcnd2_e {an : List (Int32 × Nat)} {st : List Value} {f : Int32 → Int32 → List Value → Nat → Prop} (h : xcnd2 an st f) : ∃ v t rr x y r, an = (v, t) :: rr ∧ st = .int y :: .int x :: r ∧ f x y r t := by
  unfold xcnd2 at h; split at h
  · exact ⟨_, _, _, _, _, _, rfl, rfl, h⟩
  · exact h.elim
theorem xswi_e {an : List (Int32 × Nat)} {st : List Value} {f : Int32 → List Value → Nat → List (Int32 × Nat) → Prop} (h : xswi an st f) : ∃ v d cs x r, an = (v, d) :: cs ∧ st = .int x :: r ∧ f x r d cs := by
  unfold xswi at h; split at h
  · exact ⟨_, _, _, _, _, rfl, rfl, h⟩
  · exact h.elim
theorem xi2l_e {st : List Value} {f : List Value → Prop} (h : xi2l st f) : ∃ x r, st = .int x :: r ∧ f (.long x.toInt64 :: r) := by
  unfold xi2l at h; split at h
  · exact ⟨_, _, rfl, h⟩
  · exact h.elim
theorem xineg_e {st : List Value} {f : List Value → Prop} (h : xineg st f) : ∃ x r, st = .int x :: r ∧ f (.int (-x) :: r) := by
  unfold xineg at h; split at h
  · exact ⟨_, _, rfl, h⟩
  · exact h.elim
theorem xsw_e {x : Int32} {k : Nat → Prop} {d : Nat} : ∀ {cs : List (Int32 × Nat)}, xsw x k d cs → (∃ (i : Nat) (key : Int32) (t : Nat), cs[i]? = some (key, t) ∧ x = key ∧ k t ∧ ∀ (j : Nat) (key' : Int32) (t' : Nat), j < i → cs[j]? = some (key', t') → ¬ x = key') ∨ ((∀ q ∈ cs, ¬ x = q.1) ∧ k d)
  | [], h => Or.inr ⟨fun _ hq => by (cases hq), h⟩
  | (key, t) :: r, h => by
    by_cases hx : x = key
    · exact Or.inl ⟨0, key, t, rfl, hx, h.1 hx, fun j _ _ hj => absurd hj (Nat.not_lt_zero j)⟩
    · rcases xsw_e (h.2 hx) with ⟨i, key', t', h1, h2, h3, h4⟩ | ⟨h1, h2⟩
      · refine Or.inl ⟨i + 1, key', t', h1, h2, h3, fun j k2 t2 hj h5 => ?_⟩
        cases j with
        | zero =>
          rw [List.getElem?_cons_zero] at h5
          cases h5
          exact hx
        | succ j => exact h4 j k2 t2 (by omega) h5
      · refine Or.inr ⟨fun q hq => ?_, h2⟩
        rcases List.mem_cons.mp hq with rfl | hq
        · exact hx
        · exact h1 q hq
