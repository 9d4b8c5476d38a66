/-! what both the class and the reference do, in numbers -/
theorem up {P : Nat → Prop} {k : Nat} (hk : P k) (hs : ∀ i, i < k → P (i + 1) → P i) : ∀ i, i ≤ k → P i := by
  intro i hi
  have key : ∀ n i, i + n = k → P i := by
    intro n
    induction n with
    | zero => intro i h; rw [show i = k by omega]; exact hk
    | succ n ih => intro i h; exact hs i (by omega) (ih (i + 1) (by omega))
  exact key (k - i) i (by omega)
def hasB (n : Nat) (x : Int32) : Bool := decide (0 ≤ x ∧ x < nI n)
theorem hasB_of {n : Nat} {x : Int32} (hn : n < 2 ^ 31) (h : hasB n x = true) : ∃ i, i < n ∧ x = nI i := by
  obtain ⟨h1, h2⟩ := of_decide_eq_true h
  obtain ⟨j, hj, rfl⟩ := nI_of (x := x) (fun q => by rw [fa_lt] at q; rw [fa_le] at h1; omega)
  exact ⟨j, (nI_ltI hj hn).mp h2, rfl⟩
theorem hasB_in {n i : Nat} (hn : n < 2 ^ 31) (h : i < n) : hasB n (nI i) = true := decide_eq_true ⟨nI_pos' (by omega), nI_lt h hn⟩
theorem hasB_n1 {n : Nat} {x : Int32} (h : x < 0) : hasB n x = false := decide_eq_false (fun q => by
  have := q.1
  rw [fa_le] at this
  rw [fa_lt] at h
  omega)
theorem hasB_n2 {n : Nat} {x : Int32} (h : nI n ≤ x) : hasB n x = false := decide_eq_false (fun q => by
  have := q.2
  rw [fa_lt] at this
  rw [fa_le] at h
  omega)
theorem hasB_y {n : Nat} {x : Int32} (h1 : ¬ x < 0) (h2 : ¬ nI n ≤ x) : hasB n x = true := decide_eq_true (by
  rw [fa_le, fa_lt]
  rw [fa_lt] at h1
  rw [fa_le] at h2
  omega)
def setB (n : Nat) (x : Int32) : Bool := decide (x.toBitVec.toNat < 2 ^ n)
theorem nI_back (x : Int32) : x = nI x.toBitVec.toNat := Int32.toBitVec_inj.mp (by simp [nI])
theorem setB_of {n : Nat} {x : Int32} (h : setB n x = true) : ∃ m, m < 2 ^ n ∧ x = nI m := ⟨_, of_decide_eq_true h, nI_back x⟩
theorem setB_in {n m : Nat} (hn : n < 32) (h : m < 2 ^ n) : setB n (nI m) = true := by
  have : 2 ^ n < 2 ^ 32 := Nat.pow_lt_pow_right (by decide) hn
  exact decide_eq_true (by rw [pk_tn (by omega)]; exact h)
theorem set_c {n : Nat} (hn : n ≤ 8) (x : Int32) : (x.toUInt32 >>> ((nI n).toUInt32 &&& Int32.toUInt32 31)).toInt32 = 0 ↔ setB n x = true := by
  have h := pk_ushr x (nI n) n (s_u n (by omega))
  rw [← Int32.toBitVec_inj]
  unfold setB
  rw [decide_eq_true_eq]
  constructor
  · intro e
    rw [e] at h
    have h2 : (0 : Int32).toBitVec.toNat = 0 := by decide
    rw [h2] at h
    rcases Nat.lt_or_ge x.toBitVec.toNat (2 ^ n) with q | q
    · exact q
    · have := Nat.div_pos q (Nat.two_pow_pos n)
      omega
  · intro e
    rw [Nat.div_eq_of_lt e] at h
    apply BitVec.eq_of_toNat_eq
    rw [h]; decide
theorem set_m {n : Nat} (hn : n ≤ 8) {x : Int32} (hx : ¬ x < 0) : x >>> (nI n &&& 31) = 0 ↔ setB n x = true := by
  obtain ⟨j, hj, rfl⟩ := nI_of hx
  rw [nI_shr (by omega) hj]
  unfold setB
  rw [decide_eq_true_eq, pk_tn (by omega), show (0 : Int32) = nI 0 from rfl, nI_eq (Nat.lt_of_le_of_lt (Nat.div_le_self _ _) hj) (by decide)]
  constructor
  · intro e
    rcases Nat.lt_or_ge j (2 ^ n) with q | q
    · exact q
    · have := Nat.div_pos q (Nat.two_pow_pos n)
      omega
  · exact Nat.div_eq_of_lt
theorem set_n {n : Nat} (hn : n ≤ 8) {x : Int32} (hx : x < 0) : setB n x = false := by
  cases h : setB n x with
  | false => rfl
  | true =>
    obtain ⟨m, hm, rfl⟩ := setB_of h
    have : 2 ^ n ≤ 2 ^ 8 := Nat.pow_le_pow_right (by decide) hn
    exact absurd hx (nI_pos (by omega))
def wishB (q : LQ) (p : Nat) : Bool := (List.range (q 6 1)).any (fun i => q 5 i == p)
theorem wishB_y {q : LQ} {p i : Nat} (hi : i < q 6 1) (h : q 5 i = p) : wishB q p = true := List.any_eq_true.mpr ⟨i, List.mem_range.mpr hi, by simp [h]⟩
theorem wishB_n {q : LQ} {p : Nat} (h : ∀ i, i < q 6 1 → q 5 i ≠ p) : wishB q p = false := by
  cases hb : wishB q p with
  | false => rfl
  | true =>
    obtain ⟨i, h1, h2⟩ := List.any_eq_true.mp hb
    exact absurd (by simpa using h2) (h i (List.mem_range.mp h1))
def toldQ (q : LQ) (i w : Nat) : Nat := match w with
  | 0 => q 0 i
  | 1 => q 1 i
  | 2 => q 2 i
  | 3 => onQ q i
  | 4 => q 3 i
  | _ => q 4 i
/-- a slide wears -/
def useN (u : Nat) : Nat := if u < 99 then u + 1 else 99
def wearQ (q : LQ) (i : Nat) : LQ := fun r j => if j = i then (if r = 4 then useN (q 4 i) else if r = 2 then (if useN (q 4 i) % q 6 2 = 0 then clr (q 2 i) (useN (q 4 i) % 16) else q 2 i) else q r j) else q r j
def projL (q : LQ) (set : Nat) : Nat → LQ
  | 0 => q
  | i + 1 => if set.testBit i then wearQ (projL q set i) i else projL q set i
def projQ (q : LQ) (set : Nat) : LQ := projL q set (q 6 0)
theorem wearQ_6 (q : LQ) (i j : Nat) : wearQ q i 6 j = q 6 j := by
  unfold wearQ
  by_cases h : j = i <;> simp [h]
theorem projL_6 (q : LQ) (set : Nat) : ∀ i j, projL q set i 6 j = q 6 j
  | 0, _ => rfl
  | i + 1, j => by
    unfold projL
    split
    · rw [wearQ_6, projL_6 q set i]
    · exact projL_6 q set i j
theorem useN_le (u : Nat) : useN u ≤ 99 := by unfold useN; split <;> omega
theorem wearQ_ok {q : LQ} (h : okS q) {i : Nat} (hi : i < q 6 0) : okS (wearQ q i) := by
  obtain ⟨h1, h2, h3, h4, h5, h6⟩ := h
  refine ⟨by rw [wearQ_6]; exact h1, by rw [wearQ_6]; exact h2, by rw [wearQ_6]; exact h3, by rw [wearQ_6]; exact h4, fun j hj => ?_, fun j hj => ?_⟩
  · rw [wearQ_6] at hj
    obtain ⟨g0, g1, g2, g3, g4⟩ := h5 j hj
    unfold wearQ
    by_cases e : j = i
    · subst e
      refine ⟨by simpa using g0, by simpa using g1, ?_, by simpa using g3, by simpa using useN_le _⟩
      simp only [if_true, show ((2 : Nat) = 4) = False by simp, if_false]
      split
      · exact clr_lt (n := 16) g2
      · exact g2
    · simp only [e, if_false]
      exact ⟨g0, g1, g2, g3, g4⟩
  · rw [wearQ_6] at hj
    have := h6 j hj
    unfold wearQ
    by_cases e : j = i <;> simp [e] <;> first | exact this | (subst e; exact this)
theorem okS_cong {q q' : LQ} (h : ∀ r j, q r j = q' r j) (hq : okS q) : okS q' := by
  have : q = q' := funext (fun r => funext (fun j => h r j))
  rw [← this]; exact hq
/-- the rows of a lantern in which slide i wears, u and p its new numbers -/
def wearA (a : Nat → Nat → Int32) (i : Nat) (u p : Int32) : Nat → Nat → Int32 := aU (aU a 4 (upd (a 4) i u)) 2 (upd (a 2) i p)
theorem rel_wear {q : LQ} {a a' : Nat → Nat → Int32} {s : Nat → Int32} (h : relS q a s) {i : Nat} (hi : i < q 6 0) (h0 : a' 0 = a 0) (h1 : a' 1 = a 1) (h3 : a' 3 = a 3) (h5 : a' 5 = a 5) (h4 : ∀ j, a' 4 j = if j = i then nI (useN (q 4 i)) else a 4 j)
    (h2 : ∀ j, a' 2 j = if j = i then nI (if useN (q 4 i) % q 6 2 = 0 then clr (q 2 i) (useN (q 4 i) % 16) else q 2 i) else a 2 j) : relS (wearQ q i) a' s := by
  obtain ⟨hok, hA, hW, g0, g1, g2⟩ := h
  refine ⟨wearQ_ok hok hi, fun j hj => ?_, fun j hj => ?_, by rw [wearQ_6]; exact g0, by rw [wearQ_6]; exact g1, by rw [wearQ_6]; exact g2⟩
  · rw [wearQ_6] at hj
    obtain ⟨k0, k1, k2, k3, k4⟩ := hA j hj
    rw [h0, h1, h3, h4 j, h2 j]
    unfold wearQ
    by_cases e : j = i
    · subst e
      simp only [if_true]
      refine ⟨k0, k1, ?_, k3, trivial⟩
      simp
    · simp only [e, if_false]
      exact ⟨k0, k1, k2, k3, k4⟩
  · rw [wearQ_6] at hj
    rw [h5, hW j hj]
    unfold wearQ
    by_cases e : j = i <;> simp [e]
/-- uses, prices of all -/
def sumQ (q : LQ) (r : Nat) : Nat → Nat
  | 0 => 0
  | i + 1 => sumQ q r i + q r i
/-- the nearest wanted picture: with i looked at, (which + 1, or 0; how many unlike) -/
def nearL (q : LQ) (p : Nat) : Nat → Nat × Nat
  | 0 => (0, 17)
  | i + 1 => if pop (q 5 i ^^^ p) < (nearL q p i).2 then (i + 1, pop (q 5 i ^^^ p)) else nearL q p i
/-- how many dark cells of a slide, each clear alone, would make the set show the picture -/
def crackL (others on p : Nat) : Nat → Nat
  | 0 => 0
  | c + 1 => crackL others on p c + (if on.testBit c ∧ others ||| clr on c = p then 1 else 0)
theorem on_1 {q : LQ} {i : Nat} (h : q 0 i = 1) : onQ q i = mirN (q 2 i) := by unfold onQ; rw [h]; rfl
theorem on_2 {q : LQ} {i : Nat} (h : q 0 i = 2) : onQ q i = flipN (mirN (q 2 i)) := by unfold onQ; rw [h]; rfl
theorem on_3 {q : LQ} {i : Nat} (h : q 0 i = 3) : onQ q i = notN (q 2 i) := by unfold onQ; rw [h]; rfl
theorem on_4 {q : LQ} {i : Nat} (h : q 0 i = 4) : onQ q i = clr (q 2 i) (q 1 i) := by unfold onQ; rw [h]; rfl
theorem on_5 {q : LQ} {i : Nat} (h : q 0 i = 5) : onQ q i = shiftN (clr (q 2 i) (q 1 i)) (q 1 i % 4) := by unfold onQ; rw [h]; rfl
theorem on_0 {q : LQ} {i : Nat} (h : q 0 i = 0) : onQ q i = q 2 i := by unfold onQ; rw [h]; rfl
theorem laidL_s {q : LQ} {set over i : Nat} (h : set.testBit i = true) : laidL q set over (i + 1) = laidL q set over i ||| (if over.testBit i then mirN (onQ q i) else onQ q i) := by
  show (if set.testBit i then _ else _) = _
  rw [if_pos h]
theorem laidL_n {q : LQ} {set over i : Nat} (h : set.testBit i = false) : laidL q set over (i + 1) = laidL q set over i := by
  show (if set.testBit i then _ else _) = _
  rw [if_neg (by rw [h]; decide)]
theorem projL_s {q : LQ} {set i : Nat} (h : set.testBit i = true) : projL q set (i + 1) = wearQ (projL q set i) i := by
  show (if set.testBit i then _ else _) = _
  rw [if_pos h]
theorem projL_n {q : LQ} {set i : Nat} (h : set.testBit i = false) : projL q set (i + 1) = projL q set i := by
  show (if set.testBit i then _ else _) = _
  rw [if_neg (by rw [h]; decide)]
def whI (k : Nat) : Int32 := if k = 0 then -1 else nI (k - 1)
theorem nearL_le (q : LQ) (p : Nat) : ∀ i, (nearL q p i).2 ≤ 17 ∧ (nearL q p i).1 ≤ i
  | 0 => ⟨Nat.le_refl _, Nat.le_refl _⟩
  | i + 1 => by
    have := nearL_le q p i
    show (if pop (q 5 i ^^^ p) < (nearL q p i).2 then (i + 1, pop (q 5 i ^^^ p)) else nearL q p i).2 ≤ 17 ∧ (if pop (q 5 i ^^^ p) < (nearL q p i).2 then (i + 1, pop (q 5 i ^^^ p)) else nearL q p i).1 ≤ i + 1
    split
    · exact ⟨by have := pop_le (q 5 i ^^^ p); omega, Nat.le_refl _⟩
    · exact ⟨this.1, by omega⟩
theorem sumQ_le {q : LQ} {r b : Nat} : ∀ {n : Nat}, (∀ i, i < n → q r i ≤ b) → sumQ q r n ≤ n * b
  | 0, _ => by simp [sumQ]
  | n + 1, h => by
    have := sumQ_le (fun i hi => h i (by omega) : ∀ i, i < n → q r i ≤ b)
    have h2 := h n (by omega)
    show sumQ q r n + q r n ≤ (n + 1) * b
    rw [Nat.succ_mul]
    omega
/-- a slide more, a wanted picture more, another heat, another price -/
def addQ (q : LQ) (k f r p : Nat) : LQ := fun row j => if row = 6 then (if j = 0 then q 6 0 + 1 else q 6 j) else if j = q 6 0 then (match row with
  | 0 => k
  | 1 => f
  | 2 => p
  | 3 => r
  | 4 => 0
  | _ => q row j) else q row j
def wantQ (q : LQ) (p : Nat) : LQ := fun row j => if row = 6 then (if j = 1 then q 6 1 + 1 else q 6 j) else if row = 5 ∧ j = q 6 1 then p else q row j
def heatQ (q : LQ) (h : Nat) : LQ := fun row j => if row = 6 ∧ j = 2 then h else q row j
def priceQ (q : LQ) (i v : Nat) : LQ := fun row j => if row = 3 ∧ j = i then v else q row j
theorem rel_add {q : LQ} {a a' : Nat → Nat → Int32} {s s' : Nat → Int32} (h : relS q a s) {k f r p : Nat} (hn : q 6 0 < 8) (hk : k ≤ 5) (hf : f ≤ 9) (hr : r ≤ 99) (hp : p < 65536) (h5 : a' 5 = a 5)
    (e0 : ∀ j, a' 0 j = if j = q 6 0 then nI k else a 0 j) (e1 : ∀ j, a' 1 j = if j = q 6 0 then nI f else a 1 j) (e2 : ∀ j, a' 2 j = if j = q 6 0 then nI p else a 2 j) (e3 : ∀ j, a' 3 j = if j = q 6 0 then nI r else a 3 j) (e4 : ∀ j, a' 4 j = if j = q 6 0 then nI 0 else a 4 j)
    (s0 : s' 0 = nI (q 6 0 + 1)) (s1 : s' 1 = s 1) (s2 : s' 2 = s 2) : relS (addQ q k f r p) a' s' := by
  obtain ⟨⟨o1, o2, o3, o4, o5, o6⟩, hA, hW, g0, g1, g2⟩ := h
  have q60 : addQ q k f r p 6 0 = q 6 0 + 1 := rfl
  have q61 : addQ q k f r p 6 1 = q 6 1 := rfl
  have q62 : addQ q k f r p 6 2 = q 6 2 := rfl
  refine ⟨⟨by rw [q60]; omega, by rw [q61]; exact o2, by rw [q62]; exact o3, by rw [q62]; exact o4, fun j hj => ?_, fun j hj => ?_⟩, fun j hj => ?_, fun j hj => ?_, by rw [q60]; exact s0, by rw [q61, s1]; exact g1, by rw [q62, s2]; exact g2⟩
  · rw [q60] at hj
    unfold addQ
    by_cases e : j = q 6 0
    · simp [e, hk, hf, hr, hp]
    · have := o5 j (by omega)
      simpa [e] using this
  · rw [q61] at hj
    unfold addQ
    have := o6 j hj
    simp only [show ((5 : Nat) = 6) = False by simp, if_false]
    split <;> exact this
  · rw [q60] at hj
    rw [e0, e1, e2, e3, e4]
    unfold addQ
    by_cases e : j = q 6 0
    · simp [e]
    · have := hA j (by omega)
      simpa [e] using this
  · rw [q61] at hj
    rw [h5, hW j hj]
    unfold addQ
    simp only [show ((5 : Nat) = 6) = False by simp, if_false]
    split <;> rfl
theorem rel_want {q : LQ} {a a' : Nat → Nat → Int32} {s s' : Nat → Int32} (h : relS q a s) {p : Nat} (hn : q 6 1 < 6) (hp : p < 65536) (h0 : a' 0 = a 0) (h1 : a' 1 = a 1) (h2 : a' 2 = a 2) (h3 : a' 3 = a 3) (h4 : a' 4 = a 4)
    (e5 : ∀ j, a' 5 j = if j = q 6 1 then nI p else a 5 j) (s0 : s' 0 = s 0) (s1 : s' 1 = nI (q 6 1 + 1)) (s2 : s' 2 = s 2) : relS (wantQ q p) a' s' := by
  obtain ⟨⟨o1, o2, o3, o4, o5, o6⟩, hA, hW, g0, g1, g2⟩ := h
  have q60 : wantQ q p 6 0 = q 6 0 := rfl
  have q61 : wantQ q p 6 1 = q 6 1 + 1 := rfl
  have q62 : wantQ q p 6 2 = q 6 2 := rfl
  refine ⟨⟨by rw [q60]; exact o1, by rw [q61]; omega, by rw [q62]; exact o3, by rw [q62]; exact o4, fun j hj => ?_, fun j hj => ?_⟩, fun j hj => ?_, fun j hj => ?_, by rw [q60, s0]; exact g0, by rw [q61]; exact s1, by rw [q62, s2]; exact g2⟩
  · rw [q60] at hj
    have := o5 j hj
    simpa [wantQ] using this
  · rw [q61] at hj
    unfold wantQ
    by_cases e : j = q 6 1
    · simpa [e] using hp
    · have := o6 j (by omega)
      simpa [e] using this
  · rw [q60] at hj
    rw [h0, h1, h2, h3, h4]
    have := hA j hj
    simpa [wantQ] using this
  · rw [q61] at hj
    rw [e5]
    unfold wantQ
    by_cases e : j = q 6 1
    · simp [e]
    · have := hW j (by omega)
      simpa [e] using this
theorem rel_heat {q : LQ} {a : Nat → Nat → Int32} {s s' : Nat → Int32} (h : relS q a s) {v : Nat} (h1 : 1 ≤ v) (h9 : v ≤ 9) (s0 : s' 0 = s 0) (s1 : s' 1 = s 1) (s2 : s' 2 = nI v) : relS (heatQ q v) a s' := by
  obtain ⟨⟨o1, o2, o3, o4, o5, o6⟩, hA, hW, g0, g1, g2⟩ := h
  have q60 : heatQ q v 6 0 = q 6 0 := rfl
  have q61 : heatQ q v 6 1 = q 6 1 := rfl
  have q62 : heatQ q v 6 2 = v := rfl
  refine ⟨⟨by rw [q60]; exact o1, by rw [q61]; exact o2, by rw [q62]; exact h1, by rw [q62]; exact h9, fun j hj => ?_, fun j hj => ?_⟩, fun j hj => ?_, fun j hj => ?_, by rw [q60, s0]; exact g0, by rw [q61, s1]; exact g1, by rw [q62]; exact s2⟩
  · exact o5 j hj
  · exact o6 j hj
  · exact hA j hj
  · exact hW j hj
theorem rel_price {q : LQ} {a a' : Nat → Nat → Int32} {s : Nat → Int32} (h : relS q a s) {i v : Nat} (hi : i < q 6 0) (hv : v ≤ 99) (h0 : a' 0 = a 0) (h1 : a' 1 = a 1) (h2 : a' 2 = a 2) (h4 : a' 4 = a 4) (h5 : a' 5 = a 5) (e3 : ∀ j, a' 3 j = if j = i then nI v else a 3 j) : relS (priceQ q i v) a' s := by
  obtain ⟨⟨o1, o2, o3, o4, o5, o6⟩, hA, hW, g0, g1, g2⟩ := h
  have q6 : ∀ j, priceQ q i v 6 j = q 6 j := fun _ => rfl
  refine ⟨⟨by rw [q6]; exact o1, by rw [q6]; exact o2, by rw [q6]; exact o3, by rw [q6]; exact o4, fun j hj => ?_, fun j hj => ?_⟩, fun j hj => ?_, fun j hj => ?_, by rw [q6]; exact g0, by rw [q6]; exact g1, by rw [q6]; exact g2⟩
  · rw [q6] at hj
    have := o5 j hj
    unfold priceQ
    by_cases e : j = i
    · simp [e] at this ⊢
      exact ⟨this.1, this.2.1, this.2.2.1, hv, this.2.2.2.2⟩
    · simpa [e] using this
  · exact o6 j hj
  · rw [q6] at hj
    rw [h0, h1, h2, h4, e3]
    have := hA j hj
    unfold priceQ
    by_cases e : j = i
    · simp [e] at this ⊢
      exact ⟨this.1, this.2.1, this.2.2.1, this.2.2.2.2⟩
    · simpa [e] using this
  · rw [h5]
    exact hW j hj
