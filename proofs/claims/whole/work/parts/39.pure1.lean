/-! going through slide by slide finds what going through all sets finds: the leaves, and how many there are -/
def sb (a b : Nat) : Prop := ∀ k, a.testBit k = true → b.testBit k = true
theorem sb_0 {a b : Nat} : a ^^^ (a &&& b) = 0 ↔ sb a b := by
  constructor
  · intro h k hk
    have := congrArg (fun z => z.testBit k) h
    simp only [Nat.testBit_xor, Nat.testBit_and, Nat.zero_testBit, hk] at this
    cases hb : b.testBit k with
    | true => rfl
    | false => rw [hb] at this; exact absurd this (by decide)
  · intro h
    apply Nat.eq_of_testBit_eq
    intro k
    rw [Nat.testBit_xor, Nat.testBit_and, Nat.zero_testBit]
    cases ha : a.testBit k with
    | false => cases b.testBit k <;> rfl
    | true => rw [h k ha]; rfl
theorem sb_refl (a : Nat) : sb a a := fun _ h => h
theorem sb_trans {a b c : Nat} (h : sb a b) (h2 : sb b c) : sb a c := fun k hk => h2 k (h k hk)
theorem sb_or {a b c : Nat} (h : sb a c) (h2 : sb b c) : sb (a ||| b) c := fun k hk => by
  rw [Nat.testBit_or, Bool.or_eq_true] at hk
  exact hk.elim (h k) (h2 k)
theorem sb_l (a b : Nat) : sb a (a ||| b) := fun k hk => by rw [Nat.testBit_or, hk]; rfl
theorem sb_r (a b : Nat) : sb b (a ||| b) := fun k hk => by rw [Nat.testBit_or, hk, Bool.or_true]
theorem sb_eq {a b : Nat} (h : sb a b) (h2 : sb b a) : a = b := Nat.eq_of_testBit_eq (fun k => by
  cases ha : a.testBit k with
  | true => exact (h k ha).symm
  | false =>
    cases hb : b.testBit k with
    | false => rfl
    | true => rw [h2 k hb] at ha; exact absurd ha (by decide))
theorem sb_or_eq {a b : Nat} (h : sb b a) : a ||| b = a := sb_eq (sb_or (sb_refl a) h) (sb_l a b)
theorem sb_lt {a : Nat} (h : a < 65536) : sb a 65535 := fun k hk => by
  rw [show (65535 : Nat) = 2 ^ 16 - 1 from rfl, Nat.testBit_two_pow_sub_one]
  rcases Nat.lt_or_ge k 16 with h1 | h1
  · exact decide_eq_true h1
  · rw [Nat.testBit_lt_two_pow (Nat.lt_of_lt_of_le h (Nat.pow_le_pow_right (n := 2) (by decide) h1))] at hk
    exact absurd hk (by decide)
theorem sb_pop {a b : Nat} (h : sb a b) : pop a ≤ pop b := popL_mono h 16
/-- the leaves below -/
def lvs : Nat → Nat → Nat × Nat → List (Nat × Nat)
  | 0, _, x => [x]
  | j + 1, i, x => lvs j (i + 1) x ++ (lvs j (i + 1) (x.1 ||| 2 ^ i, x.2) ++ lvs j (i + 1) (x.1 ||| 2 ^ i, x.2 ||| 2 ^ i))
theorem bit_same {m i k : Nat} (h : k < i) : (m ||| 2 ^ i).testBit k = m.testBit k := by
  rw [Nat.testBit_or, Nat.testBit_two_pow, decide_eq_false (by omega), Bool.or_false]
theorem bit_at (m i : Nat) : (m ||| 2 ^ i).testBit i = true := by
  rw [Nat.testBit_or, Nat.testBit_two_pow, decide_eq_true rfl, Bool.or_true]
theorem bit_no {m i : Nat} (h : m < 2 ^ i) : m.testBit i = false := Nat.testBit_lt_two_pow h
/-- a leaf is as its stem, below -/
theorem lvs_same : ∀ j i x e, e ∈ lvs j i x → ∀ k, k < i → e.1.testBit k = x.1.testBit k ∧ e.2.testBit k = x.2.testBit k := by
  intro j
  induction j with
  | zero =>
    intro i x e he k hk
    rw [List.mem_singleton.mp he]
    exact ⟨rfl, rfl⟩
  | succ j ih =>
    intro i x e he k hk
    rcases List.mem_append.mp he with h | h
    · exact ih _ _ _ h k (by omega)
    · rcases List.mem_append.mp h with h | h
      · have := ih _ _ _ h k (by omega)
        rw [bit_same hk] at this
        exact this
      · have := ih _ _ _ h k (by omega)
        rw [bit_same hk, bit_same hk] at this
        exact this
def faceQ (q : LQ) (o k : Nat) : Nat := if o.testBit k then mirN (onQ q k) else onQ q k
theorem laid_s (q : LQ) (s o i : Nat) : laidL q s o (i + 1) = if s.testBit i then laidL q s o i ||| faceQ q o i else laidL q s o i := rfl
theorem laid_same {q : LQ} {s o s' o' : Nat} : ∀ i, (∀ k, k < i → s'.testBit k = s.testBit k ∧ o'.testBit k = o.testBit k) → laidL q s' o' i = laidL q s o i
  | 0, _ => rfl
  | i + 1, h => by
    rw [laid_s, laid_s, laid_same i (fun k hk => h k (by omega)), (h i (by omega)).1]
    unfold faceQ
    rw [(h i (by omega)).2]
theorem cost_s (q : LQ) (s i : Nat) : costL q s (i + 1) = costL q s i + (if s.testBit i then q 3 i else 0) := rfl
theorem cost_same {q : LQ} {s s' : Nat} : ∀ i, (∀ k, k < i → s'.testBit k = s.testBit k) → costL q s' i = costL q s i
  | 0, _ => rfl
  | i + 1, h => by rw [cost_s, cost_s, cost_same i (fun k hk => h k (by omega)), h i (by omega)]
theorem laid_mono (q : LQ) (s o i : Nat) : ∀ j, sb (laidL q s o i) (laidL q s o (i + j))
  | 0 => sb_refl _
  | j + 1 => by
    refine sb_trans (laid_mono q s o i j) ?_
    show sb _ (laidL q s o (i + j + 1))
    rw [laid_s]
    split
    · exact sb_l _ _
    · exact sb_refl _
theorem cost_mono (q : LQ) (s i : Nat) : ∀ j, costL q s i ≤ costL q s (i + j)
  | 0 => Nat.le_refl _
  | j + 1 => by
    have := cost_mono q s i j
    show _ ≤ costL q s (i + j + 1)
    rw [cost_s]
    omega
theorem face_in {q : LQ} {s o i : Nat} (h : s.testBit i = true) : sb (faceQ q o i) (laidL q s o (i + 1)) := by
  rw [laid_s, if_pos h]
  exact sb_r _ _
theorem lay_y {x al : Nat} (h : sb x al) : layO x al = some x := by unfold layO; rw [if_pos (sb_0.mpr h)]
theorem lay_n {x al : Nat} (h : ¬ sb x al) : layO x al = none := by unfold layO; rw [if_neg (fun z => h (sb_0.mp z))]
/-- what is shown comes of what lies and what can still come -/
theorem in_reach {q : LQ} {x : Option Nat} {p al s o : Nat} (ho : ∀ k, k < q 6 0 → s.testBit k = true → x ≠ some k) (ha : sb (laidL q s o (q 6 0)) al) : ∀ j i, i + j = q 6 0 → sb (laidL q s o (q 6 0)) (laidL q s o i ||| (ldD q x p al).2.2.2.1 i) := by
  intro j
  induction j with
  | zero =>
    intro i hi
    obtain rfl : i = q 6 0 := by omega
    exact sb_l _ _
  | succ j ih =>
    intro i hi
    have eR : (ldD q x p al).2.2.2.1 i = (ldD q x p al).2.2.2.1 (i + 1) ||| dk (strO q x al i) ||| dk (turO q x al i) := by
      show rchL _ _ _ (q 6 0 - i) = rchL _ _ _ (q 6 0 - (i + 1)) ||| _ ||| _
      rw [show q 6 0 - i = (q 6 0 - (i + 1)) + 1 by omega]
      show rchL _ _ _ (q 6 0 - (i + 1)) ||| dk (strO q x al (q 6 0 - (q 6 0 - (i + 1) + 1))) ||| dk (turO q x al (q 6 0 - (q 6 0 - (i + 1) + 1))) = _
      rw [show q 6 0 - (q 6 0 - (i + 1) + 1) = i by omega]
    refine sb_trans (ih (i + 1) (by omega)) ?_
    rw [eR]
    have hR : sb ((ldD q x p al).2.2.2.1 (i + 1)) (laidL q s o i ||| ((ldD q x p al).2.2.2.1 (i + 1) ||| dk (strO q x al i) ||| dk (turO q x al i))) := sb_trans (sb_trans (sb_l _ _) (sb_l _ _)) (sb_r _ _)
    rw [laid_s]
    split
    · next hb =>
      have hf : sb (faceQ q o i) al := by
        refine sb_trans (face_in hb) (sb_trans ?_ ha)
        have := laid_mono q s o (i + 1) (q 6 0 - (i + 1))
        rw [show i + 1 + (q 6 0 - (i + 1)) = q 6 0 by omega] at this
        exact this
      refine sb_or (sb_or (sb_l _ _) ?_) hR
      have hx := ho i (by omega) hb
      unfold faceQ at hf ⊢
      split at hf
      · next h2 =>
        rw [if_pos h2]
        have e : turO q x al i = some (mirN (onQ q i)) := by unfold turO; rw [if_neg hx, lay_y hf]
        rw [e]
        exact sb_trans (sb_r _ _) (sb_r _ _)
      · next h2 =>
        rw [if_neg h2]
        have e : strO q x al i = some (onQ q i) := by unfold strO; rw [if_neg hx, lay_y hf]
        rw [e]
        exact sb_trans (sb_trans (sb_r _ _) (sb_l _ _)) (sb_r _ _)
    · exact sb_or (sb_l _ _) hR
theorem out_iff {q : LQ} {x : Option Nat} {p al i sh : Nat} : outB (ldD q x p al) i sh = true ↔ ¬ sb p (sh ||| (ldD q x p al).2.2.2.1 i) := by
  unfold outB
  rw [Bool.not_eq_true', decide_eq_false_iff_not]
  exact not_congr sb_0
theorem reach_end (q : LQ) (x : Option Nat) (p al : Nat) : (ldD q x p al).2.2.2.1 (q 6 0) = 0 := by
  show rchL _ _ _ (q 6 0 - q 6 0) = 0
  rw [Nat.sub_self]; rfl
theorem fold_id {α β : Type} {f : β → α → β} {b : β} : ∀ (l : List α), (∀ e, e ∈ l → f b e = b) → l.foldl f b = b
  | [], _ => rfl
  | e :: l, h => by
    rw [List.foldl_cons, h e (List.mem_cons_self)]
    exact fold_id l (fun e he => h e (List.mem_cons_of_mem _ he))
def sumTo (f : Nat → Nat) : Nat → Nat
  | 0 => 0
  | k + 1 => sumTo f k + f k
theorem sum_congr {f g : Nat → Nat} : ∀ k, (∀ i, i < k → f i = g i) → sumTo f k = sumTo g k
  | 0, _ => rfl
  | k + 1, h => by
    show sumTo f k + f k = sumTo g k + g k
    rw [sum_congr k (fun i hi => h i (by omega)), h k (by omega)]
theorem sum_add (f g : Nat → Nat) : ∀ k, sumTo (fun i => f i + g i) k = sumTo f k + sumTo g k
  | 0 => rfl
  | k + 1 => by
    show sumTo (fun i => f i + g i) k + (f k + g k) = sumTo f k + f k + (sumTo g k + g k)
    rw [sum_add f g k]
    omega
theorem sum_two (f : Nat → Nat) : ∀ k, sumTo f (2 * k) = sumTo (fun i => f (2 * i) + f (2 * i + 1)) k
  | 0 => rfl
  | k + 1 => by
    show sumTo f (2 * k) + f (2 * k) + f (2 * k + 1) = _ + (f (2 * k) + f (2 * k + 1))
    rw [sum_two f k]
    omega
theorem sum_zero {f : Nat → Nat} : ∀ k, (∀ i, i < k → f i = 0) → sumTo f k = 0
  | 0, _ => rfl
  | k + 1, h => by
    show sumTo f k + f k = 0
    rw [sum_zero k (fun i hi => h i (by omega)), h k (by omega)]
theorem sum_more {f : Nat → Nat} {a : Nat} (h : ∀ i, a ≤ i → f i = 0) : ∀ k, sumTo f (a + k) = sumTo f a
  | 0 => rfl
  | k + 1 => by
    show sumTo f (a + k) + f (a + k) = _
    rw [sum_more h k, h (a + k) (by omega)]
    rfl
def oneI (b : Bool) : Nat := cond b 1 0
def cntL (P : Nat × Nat → Bool) (i set ov j : Nat) : Nat := sumTo (fun s => sumTo (fun o => oneI (subB o s && P (set + 2 ^ i * s, ov + 2 ^ i * o))) (2 ^ j)) (2 ^ j)
theorem sub_iff {o s : Nat} : subB o s = true ↔ sb o s := by
  unfold subB
  rw [decide_eq_true_eq]
  exact sb_0
theorem dbl_tb0 (n : Nat) (b : Bool) : (2 * n + b.toNat).testBit 0 = b := by
  rw [Nat.testBit_zero]
  cases b
  · exact decide_eq_false (by show ¬ (2 * n + 0) % 2 = 1; omega)
  · exact decide_eq_true (by show (2 * n + 1) % 2 = 1; omega)
theorem dbl_tbs (n k : Nat) (b : Bool) : (2 * n + b.toNat).testBit (k + 1) = n.testBit k := by
  rw [Nat.testBit_succ]
  congr 1
  cases b
  · show (2 * n + 0) / 2 = n; omega
  · show (2 * n + 1) / 2 = n; omega
theorem sub_dbl (o s : Nat) (a b : Bool) : subB (2 * o + a.toNat) (2 * s + b.toNat) = ((!a || b) && subB o s) := by
  rw [Bool.eq_iff_iff, sub_iff, Bool.and_eq_true, sub_iff]
  constructor
  · intro h
    refine ⟨?_, fun k hk => ?_⟩
    · have := h 0
      rw [dbl_tb0, dbl_tb0] at this
      cases a
      · rfl
      · rw [this rfl]; rfl
    · have := h (k + 1)
      rw [dbl_tbs, dbl_tbs] at this
      exact this hk
  · intro h k hk
    cases k with
    | zero =>
      rw [dbl_tb0] at hk ⊢
      have := h.1
      rw [hk] at this
      exact this
    | succ k =>
      rw [dbl_tbs] at hk ⊢
      exact h.2 k hk
theorem cnt_lvs (P : Nat × Nat → Bool) : ∀ j i set ov, set < 2 ^ i → ov < 2 ^ i → (lvs j i (set, ov)).countP P = cntL P i set ov j := by
  intro j
  induction j with
  | zero =>
    intro i set ov _ _
    show List.countP P [(set, ov)] = 0 + (0 + oneI (subB 0 0 && P (set + 2 ^ i * 0, ov + 2 ^ i * 0)))
    rw [show subB 0 0 = true from rfl, Nat.mul_zero, Nat.add_zero, Nat.add_zero, Bool.true_and, List.countP_cons, List.countP_nil, Nat.zero_add, Nat.zero_add, Nat.zero_add]
    cases P (set, ov) <;> rfl
  | succ j ih =>
    intro i set ov hs ho
    have es : ∀ m, m < 2 ^ i → m ||| 2 ^ i = m + 2 ^ i := by
      intro m hm
      have := Nat.two_pow_add_eq_or_of_lt hm 1
      rw [Nat.mul_one] at this
      rw [Nat.or_comm, ← this, Nat.add_comm]
    show List.countP P (lvs j (i + 1) (set, ov) ++ (lvs j (i + 1) (set ||| 2 ^ i, ov) ++ lvs j (i + 1) (set ||| 2 ^ i, ov ||| 2 ^ i))) = _
    rw [List.countP_append, List.countP_append, ih _ _ _ (up1 hs) (up1 ho), ih _ _ _ (bitS_lt hs) (up1 ho), ih _ _ _ (bitS_lt hs) (bitS_lt ho), es set hs, es ov ho]
    unfold cntL
    rw [show (2 : Nat) ^ (j + 1) = 2 * 2 ^ j by rw [Nat.pow_succ, Nat.mul_comm], sum_two, ← sum_add, ← sum_add]
    refine sum_congr _ (fun s _ => ?_)
    rw [sum_two, sum_two, ← sum_add, ← sum_add, ← sum_add]
    refine sum_congr _ (fun o _ => ?_)
    have p2 : (2 : Nat) ^ (i + 1) = 2 * 2 ^ i := by rw [Nat.pow_succ, Nat.mul_comm]
    have m0 : ∀ z, 2 ^ (i + 1) * z = 2 ^ i * (2 * z) := fun z => by rw [p2, Nat.mul_comm 2 (2 ^ i), Nat.mul_assoc]
    have m1 : ∀ y z, y + 2 ^ i + 2 ^ i * (2 * z) = y + 2 ^ i * (2 * z + 1) := fun y z => by rw [Nat.mul_add, Nat.mul_one]; omega
    have c00 : subB (2 * o) (2 * s) = subB o s := sub_dbl o s false false
    have c01 : subB (2 * o) (2 * s + 1) = subB o s := sub_dbl o s false true
    have c10 : subB (2 * o + 1) (2 * s) = false := sub_dbl o s true false
    have c11 : subB (2 * o + 1) (2 * s + 1) = subB o s := sub_dbl o s true true
    rw [c00, c01, c10, c11, m0, m0, m1, m1, Bool.false_and]
    show _ = oneI _ + 0 + (oneI _ + oneI _)
    omega
theorem cnt_row (P : Nat × Nat → Bool) (s : Nat) : ∀ k, (rowE s k).countP P = sumTo (fun o => oneI (subB o s && P (s, o))) k
  | 0 => rfl
  | k + 1 => by
    show _ = sumTo _ k + oneI (subB k s && P (s, k))
    cases h : subB k s with
    | true =>
      rw [rowE_s h, List.countP_append, cnt_row P s k, List.countP_cons, List.countP_nil]
      cases P (s, k) <;> rfl
    | false =>
      rw [rowE_n h, cnt_row P s k]
      rfl
theorem sb_le {a b : Nat} (h : sb a b) : a ≤ b := by
  have : a &&& b = a := Nat.eq_of_testBit_eq (fun k => by
    rw [Nat.testBit_and]
    cases ha : a.testBit k with
    | false => rfl
    | true => rw [h k ha]; rfl)
  exact le_of_sub this
theorem cnt_pre (P : Nat × Nat → Bool) (n : Nat) : ∀ k, k ≤ 2 ^ n → (preE k).countP P = sumTo (fun s => sumTo (fun o => oneI (subB o s && P (s, o))) (2 ^ n)) k
  | 0, _ => rfl
  | k + 1, hk => by
    rw [preE_s, List.countP_append, cnt_pre P n k (by omega), cnt_row]
    show _ = sumTo _ k + sumTo (fun o => oneI (subB o k && P (k, o))) (2 ^ n)
    have := sum_more (f := fun o => oneI (subB o k && P (k, o))) (a := k + 1) (fun o ho => by
      have : subB o k = false := by
        rw [Bool.eq_false_iff]
        intro z
        have := sb_le (sub_iff.mp z)
        omega
      show oneI (subB o k && P (k, o)) = 0
      rw [this]; rfl) (2 ^ n - (k + 1))
    rw [show k + 1 + (2 ^ n - (k + 1)) = 2 ^ n by omega] at this
    rw [this]
/-- as many of a kind among the leaves as among all -/
theorem cnt_all (P : Nat × Nat → Bool) (n : Nat) : (lvs n 0 (0, 0)).countP P = (allE n).countP P := by
  rw [cnt_lvs P n 0 0 0 (by decide) (by decide)]
  unfold allE cntL
  rw [cnt_pre P n (2 ^ n) (Nat.le_refl _)]
  refine sum_congr _ (fun s _ => sum_congr _ (fun o _ => ?_))
  rw [Nat.pow_zero, Nat.one_mul, Nat.one_mul, Nat.zero_add, Nat.zero_add]
theorem mem_all {n : Nat} {e : Nat × Nat} : e ∈ lvs n 0 (0, 0) ↔ e ∈ allE n := by
  have key : ∀ l : List (Nat × Nat), e ∈ l ↔ 0 < l.countP (fun z => decide (z = e)) := by
    intro l
    rw [List.countP_pos_iff]
    constructor
    · intro h; exact ⟨e, h, decide_eq_true rfl⟩
    · intro ⟨z, hz, h⟩
      rw [← of_decide_eq_true h]; exact hz
  rw [key, key, cnt_all]
