/-! numbers: bits of ints as bits of natural numbers (the rows bt .. b_sshr, fa_and, fa_or, fb_xorI began as kit/laws texts) -/
def bt (x : Int32) (i : Nat) : Bool := x.toBitVec.getLsbD i
theorem b_ext {x y : Int32} (h : ∀ i, i < 32 → bt x i = bt y i) : x = y := Int32.toBitVec_inj.mp (BitVec.eq_of_getLsbD_eq (fun i hi => h i hi))
theorem b_or (x y : Int32) (i : Nat) : bt (x ||| y) i = (bt x i || bt y i) := by unfold bt; rw [Int32.toBitVec_or, BitVec.getLsbD_or]
theorem b_and (x y : Int32) (i : Nat) : bt (x &&& y) i = (bt x i && bt y i) := by unfold bt; rw [Int32.toBitVec_and, BitVec.getLsbD_and]
theorem b_xor (x y : Int32) (i : Nat) : bt (x ^^^ y) i = (bt x i ^^ bt y i) := by unfold bt; rw [Int32.toBitVec_xor, BitVec.getLsbD_xor]
theorem b_big {x : Int32} {i : Nat} (h : 32 ≤ i) : bt x i = false := BitVec.getLsbD_of_ge _ _ h
theorem b_m1 : ∀ i, i < 32 → bt (-1) i = true := by decide +kernel
theorem s_l : ∀ n, n < 32 → ((nI n &&& 31).toBitVec.smod 32).toNat = n := by decide +kernel
theorem s_u : ∀ n, n < 32 → (((nI n).toUInt32 &&& Int32.toUInt32 31).toBitVec % 32).toNat = n := by decide +kernel
theorem b_shl (n : Nat) (hn : n < 32) (x : Int32) {i : Nat} (hi : i < 32) : bt (x <<< (nI n &&& 31)) i = (decide (n ≤ i) && bt x (i - n)) := by
  unfold bt
  rw [Int32.toBitVec_shiftLeft]
  show (x.toBitVec <<< ((nI n &&& 31).toBitVec.smod 32).toNat).getLsbD i = _
  rw [s_l n hn, BitVec.getLsbD_shiftLeft]
  rcases Nat.lt_or_ge i n with h | h
  · simp [h, Nat.not_le.mpr h]
  · simp [hi, h, Nat.not_lt.mpr h]
theorem b_ushr (n : Nat) (hn : n < 32) (x : Int32) (i : Nat) : bt ((x.toUInt32 >>> ((nI n).toUInt32 &&& Int32.toUInt32 31)).toInt32) i = bt x (n + i) := by
  show (x.toUInt32 >>> ((nI n).toUInt32 &&& Int32.toUInt32 31)).toBitVec.getLsbD i = x.toUInt32.toBitVec.getLsbD (n + i)
  rw [UInt32.toBitVec_shiftRight]
  show (x.toUInt32.toBitVec >>> (((nI n).toUInt32 &&& Int32.toUInt32 31).toBitVec % 32).toNat).getLsbD i = _
  rw [s_u n hn, BitVec.getLsbD_ushiftRight]
theorem b_sshr (n : Nat) (hn : n < 32) (x : Int32) {i : Nat} (hi : i < 32) : bt (x >>> (nI n &&& 31)) i = if n + i < 32 then bt x (n + i) else bt x 31 := by
  unfold bt
  rw [Int32.toBitVec_shiftRight]
  show (x.toBitVec.sshiftRight ((nI n &&& 31).toBitVec.smod 32).toNat).getLsbD i = _
  rw [s_l n hn, BitVec.getLsbD_sshiftRight, BitVec.msb_eq_getLsbD_last]
  simp [hi]
theorem fa_lt (a b : Int32) : a < b ↔ a.toInt < b.toInt := Int32.lt_iff_toInt_lt
theorem fa_le (a b : Int32) : a ≤ b ↔ a.toInt ≤ b.toInt := Int32.le_iff_toInt_le
theorem fa_eq (a b : Int32) : a = b ↔ a.toInt = b.toInt := Int32.toInt_inj.symm
theorem fa_lit (n : Nat) : (OfNat.ofNat n : Int32) = nI n := rfl
theorem fa_and (a b : Nat) : nI a &&& nI b = nI (a &&& b) := by
  apply Int32.toBitVec_inj.1
  show BitVec.ofNat 32 a &&& BitVec.ofNat 32 b = BitVec.ofNat 32 (a &&& b)
  apply BitVec.eq_of_getLsbD_eq
  intro i hi
  simp [hi]
theorem fa_or (a b : Nat) : nI a ||| nI b = nI (a ||| b) := by
  apply Int32.toBitVec_inj.1
  show BitVec.ofNat 32 a ||| BitVec.ofNat 32 b = BitVec.ofNat 32 (a ||| b)
  apply BitVec.eq_of_getLsbD_eq
  intro i hi
  simp [hi]
theorem fb_xorI (a b : Nat) : nI a ^^^ nI b = nI (a ^^^ b) := by
  apply Int32.toBitVec_inj.1
  show BitVec.ofNat 32 a ^^^ BitVec.ofNat 32 b = BitVec.ofNat 32 (a ^^^ b)
  apply BitVec.eq_of_getLsbD_eq
  intro i hi
  simp [hi]
theorem fb_bit_nat (n j : Nat) : n &&& 2 ^ j = 0 ↔ n.testBit j = false := by
  constructor
  · intro h
    have h1 : (n &&& 2 ^ j).testBit j = false := by rw [h]; simp
    rw [Nat.testBit_and] at h1
    simpa using h1
  · intro h
    apply Nat.eq_of_testBit_eq
    intro i
    rw [Nat.testBit_and]
    by_cases hi : j = i
    · subst hi; simp [h]
    · first | (simp [Nat.testBit_two_pow, hi]; done) | (simp [Nat.testBit_two_pow_of_ne hi]; done)
theorem fb_bit_set (n j i : Nat) : (n ||| 2 ^ j).testBit i = (n.testBit i || decide (i = j)) := by
  rw [Nat.testBit_or]
  by_cases h : j = i
  · subst h; simp
  · have h2 : ¬ i = j := fun e => h e.symm
    first | (simp [Nat.testBit_two_pow, h, h2]; done) | (simp [Nat.testBit_two_pow_of_ne h, h2]; done)
theorem fb_bit_flip (n j i : Nat) : (n ^^^ 2 ^ j).testBit i = (n.testBit i ^^ decide (i = j)) := by
  rw [Nat.testBit_xor]
  by_cases h : j = i
  · subst h; simp
  · have h2 : ¬ i = j := fun e => h e.symm
    first | (simp [Nat.testBit_two_pow, h, h2]; done) | (simp [Nat.testBit_two_pow_of_ne h, h2]; done)
theorem i_andn (x y : Int32) : x &&& (y ^^^ (-1)) = x ^^^ (x &&& y) := by
  refine b_ext (fun i hi => ?_)
  rw [b_and, b_xor, b_xor, b_and, b_m1 i hi]
  cases bt x i <;> cases bt y i <;> rfl
theorem nI_andn (a b : Nat) : nI a &&& (nI b ^^^ (-1)) = nI (a ^^^ (a &&& b)) := by rw [i_andn, fa_and, fb_xorI]
theorem nI_shl {m i : Nat} (hi : i < 32) (h : m * 2 ^ i < 2 ^ 32) : nI m <<< (nI i &&& 31) = nI (m * 2 ^ i) := pk_shlN _ i (s_l i hi) h
theorem nI_shr {m i : Nat} (hi : i < 32) (h : m < 2 ^ 31) : nI m >>> (nI i &&& 31) = nI (m / 2 ^ i) := pk_shrN h _ i (s_l i hi)
theorem nI_ushr {m i : Nat} (hi : i < 32) (h : m < 2 ^ 32) : ((nI m).toUInt32 >>> ((nI i).toUInt32 &&& Int32.toUInt32 31)).toInt32 = nI (m / 2 ^ i) := pk_ushrN h _ i (s_u i hi)
theorem nI_pow {i : Nat} (hi : i < 32) : (1 : Int32) <<< (nI i &&& 31) = nI (2 ^ i) := by
  have h := nI_shl (m := 1) hi (by rw [Nat.one_mul]; exact Nat.pow_lt_pow_right (by decide) hi)
  rw [Nat.one_mul] at h
  exact h
theorem nI_and1 (m : Nat) : nI m &&& 1 = nI (m % 2) := by
  rw [show (1 : Int32) = nI 1 from rfl, fa_and]
  exact congrArg nI (Nat.and_two_pow_sub_one_eq_mod m 1)
theorem nI_bit {m i : Nat} (hi : i < 32) (h : m < 2 ^ 31) : nI m >>> (nI i &&& 31) &&& 1 = nI (m / 2 ^ i % 2) := by rw [nI_shr hi h, nI_and1]
theorem bit_tb (m i : Nat) : m / 2 ^ i % 2 = if m.testBit i then 1 else 0 := by
  rw [Nat.testBit_eq_decide_div_mod_eq]
  rcases (by omega : m / 2 ^ i % 2 = 0 ∨ m / 2 ^ i % 2 = 1) with h | h <;> simp [h]
theorem nI_bit0 {m i : Nat} (hi : i < 32) (h : m < 2 ^ 31) : nI m >>> (nI i &&& 31) &&& 1 = 0 ↔ m.testBit i = false := by
  rw [nI_bit hi h, bit_tb]
  cases m.testBit i
  · exact ⟨fun _ => rfl, fun _ => rfl⟩
  · exact ⟨fun h => absurd h (by decide), fun h => by cases h⟩
theorem nI_bit1 {m i : Nat} (hi : i < 32) (h : m < 2 ^ 31) : nI m >>> (nI i &&& 31) &&& 1 = 1 ↔ m.testBit i = true := by
  rw [nI_bit hi h, bit_tb]
  cases m.testBit i
  · exact ⟨fun h => absurd h (by decide), fun h => by cases h⟩
  · exact ⟨fun _ => rfl, fun _ => rfl⟩
/-- pictures moved: bit c of p comes to place g c -/
def pm (g : Nat → Nat) (p : Nat) : Nat → Nat
  | 0 => 0
  | c + 1 => pm g p c ||| (p / 2 ^ c % 2) * 2 ^ (g c)
def gMir (c : Nat) : Nat := c / 4 * 4 + 3 - c % 4
def gFlip (c : Nat) : Nat := 12 - c / 4 * 4 + c % 4
def gShift (by_ c : Nat) : Nat := c / 4 * 4 + (c % 4 + by_) % 4
def mirN (p : Nat) : Nat := pm gMir p 16
def flipN (p : Nat) : Nat := pm gFlip p 16
def shiftN (p k : Nat) : Nat := pm (gShift k) p 16
def mirC (p : Nat) : Nat := ((((p &&& 13107) * 4 ||| (p &&& 52428) / 4) &&& 21845) * 2) ||| ((((p &&& 13107) * 4 ||| (p &&& 52428) / 4) &&& 43690) / 2)
/-- functions that go bit by bit -/
def lin (F : Nat → Nat) : Prop := F 0 = 0 ∧ ∀ a b, F (a ||| b) = F a ||| F b
theorem or_bit {p n : Nat} (h : p < 2 ^ (n + 1)) : p = p % 2 ^ n ||| (p / 2 ^ n % 2) * 2 ^ n := by
  have h1 : p / 2 ^ n < 2 := by
    rw [Nat.div_lt_iff_lt_mul (Nat.two_pow_pos n)]
    rw [Nat.pow_succ] at h
    omega
  have h2 : p % 2 ^ n < 2 ^ n := Nat.mod_lt _ (Nat.two_pow_pos n)
  have h3 := Nat.two_pow_add_eq_or_of_lt h2 (p / 2 ^ n)
  rw [Nat.mod_eq_of_lt h1, Nat.or_comm, Nat.mul_comm (p / 2 ^ n), ← h3]
  exact (Nat.div_add_mod p (2 ^ n)).symm
theorem lin_ext {F G : Nat → Nat} (hF : lin F) (hG : lin G) : ∀ n, (∀ k, k < n → F (2 ^ k) = G (2 ^ k)) → ∀ p, p < 2 ^ n → F p = G p
  | 0, _, p, hp => by
    have : p = 0 := by simpa using hp
    rw [this, hF.1, hG.1]
  | n + 1, h, p, hp => by
    have e := or_bit hp
    have ih := lin_ext hF hG n (fun k hk => h k (by omega)) (p % 2 ^ n) (Nat.mod_lt _ (Nat.two_pow_pos n))
    rw [e, hF.2, hG.2, ih]
    rcases (by omega : p / 2 ^ n % 2 = 0 ∨ p / 2 ^ n % 2 = 1) with q | q
    · rw [q, Nat.zero_mul, hF.1, hG.1]
    · rw [q, Nat.one_mul, h n (by omega)]
theorem lin_and {F : Nat → Nat} (m : Nat) (h : lin F) : lin (fun p => F p &&& m) := ⟨by simp [h.1], fun a b => by
  simp only [h.2]
  apply Nat.eq_of_testBit_eq
  intro i
  simp only [Nat.testBit_and, Nat.testBit_or]
  cases (F a).testBit i <;> cases (F b).testBit i <;> cases m.testBit i <;> rfl⟩
theorem lin_or {F G : Nat → Nat} (h : lin F) (h2 : lin G) : lin (fun p => F p ||| G p) := ⟨by simp [h.1, h2.1], fun a b => by
  simp only [h.2, h2.2]
  apply Nat.eq_of_testBit_eq
  intro i
  simp only [Nat.testBit_or]
  cases (F a).testBit i <;> cases (F b).testBit i <;> cases (G a).testBit i <;> cases (G b).testBit i <;> rfl⟩
theorem lin_mul {F : Nat → Nat} (k : Nat) (h : lin F) : lin (fun p => F p * 2 ^ k) := ⟨by simp [h.1], fun a b => by
  simp only [h.2, ← Nat.shiftLeft_eq]
  exact Nat.shiftLeft_or_distrib⟩
theorem lin_div {F : Nat → Nat} (k : Nat) (h : lin F) : lin (fun p => F p / 2 ^ k) := ⟨by simp [h.1], fun a b => by
  simp only [h.2, ← Nat.shiftRight_eq_div_pow]
  exact Nat.shiftRight_or_distrib⟩
theorem lin_id : lin (fun p => p) := ⟨rfl, fun _ _ => rfl⟩
theorem lin_comp {F G : Nat → Nat} (h : lin F) (h2 : lin G) : lin (fun p => F (G p)) := ⟨by simp [h.1, h2.1], fun a b => by simp only [h2.2, h.2]⟩
theorem lin_pm (g : Nat → Nat) : ∀ c, lin (fun p => pm g p c)
  | 0 => ⟨rfl, fun _ _ => by simp [pm]⟩
  | c + 1 => by
    refine lin_or (lin_pm g c) ⟨by simp, fun a b => ?_⟩
    simp only [bit_tb, Nat.testBit_or]
    cases a.testBit c <;> cases b.testBit c <;> simp
theorem pm_lt {g : Nat → Nat} {p n : Nat} : ∀ c, (∀ i, i < c → g i < n) → pm g p c < 2 ^ n
  | 0, _ => Nat.two_pow_pos n
  | c + 1, h => by
    refine Nat.or_lt_two_pow (pm_lt c (fun i hi => h i (by omega))) ?_
    rcases (by omega : p / 2 ^ c % 2 = 0 ∨ p / 2 ^ c % 2 = 1) with q | q
    · rw [q, Nat.zero_mul]; exact Nat.two_pow_pos n
    · rw [q, Nat.one_mul]; exact Nat.pow_lt_pow_right (by decide) (h c (by omega))
theorem mirN_lt (p : Nat) : mirN p < 65536 := pm_lt (n := 16) 16 (by decide)
theorem flipN_lt (p : Nat) : flipN p < 65536 := pm_lt (n := 16) 16 (by decide)
theorem shiftN_lt (p k : Nat) : shiftN p k < 65536 := pm_lt (n := 16) 16 (fun i hi => by unfold gShift; omega)
theorem mirC_eq {p : Nat} (h : p < 65536) : mirC p = mirN p := by
  refine lin_ext (F := mirC) (G := mirN) ?_ (lin_pm _ _) 16 (by decide +kernel) p h
  have h1 : lin (fun p : Nat => (p &&& 13107) * 2 ^ 2 ||| (p &&& 52428) / 2 ^ 2) := lin_or (lin_mul 2 (lin_and _ lin_id)) (lin_div 2 (lin_and _ lin_id))
  exact lin_or (lin_mul 1 (lin_and _ h1)) (lin_div 1 (lin_and _ h1))
def flipC (p : Nat) : Nat := ((((p &&& 255) * 256 ||| (p &&& 65280) / 256) &&& 3855) * 16) ||| ((((p &&& 255) * 256 ||| (p &&& 65280) / 256) &&& 61680) / 16)
theorem flipC_eq {p : Nat} (h : p < 65536) : flipC p = flipN p := by
  refine lin_ext (F := flipC) (G := flipN) ?_ (lin_pm _ _) 16 (by decide +kernel) p h
  have h1 : lin (fun p : Nat => (p &&& 255) * 2 ^ 8 ||| (p &&& 65280) / 2 ^ 8) := lin_or (lin_mul 8 (lin_and _ lin_id)) (lin_div 8 (lin_and _ lin_id))
  exact lin_or (lin_mul 4 (lin_and _ h1)) (lin_div 4 (lin_and _ h1))
def shC (p : Nat) : Nat := (p &&& 4294932343) * 2 ||| (p &&& 34952) / 8
theorem lin_shC : lin shC := lin_or (lin_mul 1 (lin_and _ lin_id)) (lin_div 3 (lin_and _ lin_id))
theorem shC_eq {p k : Nat} (h : p < 65536) (hk : k < 4) : shC (shiftN p k) = shiftN p (k + 1) := by
  rcases (by omega : k = 0 ∨ k = 1 ∨ k = 2 ∨ k = 3) with rfl | rfl | rfl | rfl
  · exact lin_ext (F := fun p => shC (shiftN p 0)) (G := fun p => shiftN p 1) (lin_comp lin_shC (lin_pm _ _)) (lin_pm _ _) 16 (by decide +kernel) p h
  · exact lin_ext (F := fun p => shC (shiftN p 1)) (G := fun p => shiftN p 2) (lin_comp lin_shC (lin_pm _ _)) (lin_pm _ _) 16 (by decide +kernel) p h
  · exact lin_ext (F := fun p => shC (shiftN p 2)) (G := fun p => shiftN p 3) (lin_comp lin_shC (lin_pm _ _)) (lin_pm _ _) 16 (by decide +kernel) p h
  · exact lin_ext (F := fun p => shC (shiftN p 3)) (G := fun p => shiftN p 4) (lin_comp lin_shC (lin_pm _ _)) (lin_pm _ _) 16 (by decide +kernel) p h
theorem shiftN_0 {p : Nat} (h : p < 65536) : shiftN p 0 = p := lin_ext (F := fun p => shiftN p 0) (G := fun p => p) (lin_pm _ _) lin_id 16 (by decide +kernel) p h
/-- how many bits -/
def popL (p : Nat) : Nat → Nat
  | 0 => 0
  | c + 1 => popL p c + p / 2 ^ c % 2
def pop (p : Nat) : Nat := popL p 16
theorem popL_ge {p n : Nat} (h : p < 2 ^ n) : ∀ k, popL p (n + k) = popL p n
  | 0 => rfl
  | k + 1 => by
    show popL p (n + k) + p / 2 ^ (n + k) % 2 = _
    rw [popL_ge h k, Nat.div_eq_of_lt (Nat.lt_of_lt_of_le h (Nat.pow_le_pow_right (by decide) (by omega)))]
    rfl
theorem pop31 {p : Nat} (h : p < 65536) : popL p 31 = pop p := popL_ge (n := 16) h 15
theorem popL_le (p : Nat) : ∀ k, popL p k ≤ k
  | 0 => Nat.le_refl 0
  | k + 1 => by
    have := popL_le p k
    show popL p k + p / 2 ^ k % 2 ≤ k + 1
    omega
theorem pop_le (p : Nat) : pop p ≤ 16 := popL_le p 16
theorem and16 (a b c d : Nat) (ha : a < 16) (hc : c < 16) : (a + 16 * b) &&& (c + 16 * d) = (a &&& c) + 16 * (b &&& d) := by
  have e : ∀ x y : Nat, x < 16 → x + 16 * y = 2 ^ 4 * y ||| x := fun x y hx => by rw [← Nat.two_pow_add_eq_or_of_lt (i := 4) hx, Nat.add_comm]
  have hac : a &&& c < 16 := Nat.lt_of_le_of_lt Nat.and_le_left ha
  rw [e a b ha, e c d hc, e _ _ hac]
  apply Nat.eq_of_testBit_eq
  intro i
  simp only [Nat.testBit_and, Nat.testBit_or, Nat.testBit_two_pow_mul]
  by_cases h : 4 ≤ i
  · have h1 : a.testBit i = false := Nat.testBit_lt_two_pow (Nat.lt_of_lt_of_le ha (Nat.pow_le_pow_right (n := 2) (by decide) h))
    have h2 : c.testBit i = false := Nat.testBit_lt_two_pow (Nat.lt_of_lt_of_le hc (Nat.pow_le_pow_right (n := 2) (by decide) h))
    simp [h, h1, h2]
  · simp [h]

def bc1 (i : Int32) : Int32 := i - ((i.toUInt32 >>> ((1 : Int32).toUInt32 &&& Int32.toUInt32 31)).toInt32 &&& 1431655765)
def bc2 (i : Int32) : Int32 := (i &&& 858993459) + ((i.toUInt32 >>> ((2 : Int32).toUInt32 &&& Int32.toUInt32 31)).toInt32 &&& 858993459)
def bc3 (i : Int32) : Int32 := (i + (i.toUInt32 >>> ((4 : Int32).toUInt32 &&& Int32.toUInt32 31)).toInt32) &&& 252645135
def bc4 (i : Int32) : Int32 := i + (i.toUInt32 >>> ((8 : Int32).toUInt32 &&& Int32.toUInt32 31)).toInt32
def bc5 (i : Int32) : Int32 := i + (i.toUInt32 >>> ((16 : Int32).toUInt32 &&& Int32.toUInt32 31)).toInt32
def bcI (i : Int32) : Int32 := bc5 (bc4 (bc3 (bc2 (bc1 i)))) &&& 63
theorem n4_1 : ∀ n, n < 16 → ∀ b, b < 2 → (n / 2 + 8 * b) &&& 5 = n / 2 &&& 5 := by decide +kernel
theorem n4_2 : ∀ n, n < 16 → n / 2 &&& 5 ≤ n ∧ (n / 2 &&& 5) < 16 := by decide +kernel
theorem n4_3 : ∀ n, n < 16 → ∀ b, b < 4 → (n / 4 + 4 * b) &&& 3 = n / 4 &&& 3 := by decide +kernel
theorem n4_4 : ∀ n, n < 16 → ((n - (n / 2 &&& 5)) &&& 3) + ((n - (n / 2 &&& 5)) / 4 &&& 3) = n % 2 + n / 2 % 2 + n / 4 % 2 + n / 8 % 2 := by decide +kernel
theorem and_nib (a0 a1 a2 a3 m : Nat) (h0 : a0 < 16) (h1 : a1 < 16) (h2 : a2 < 16) (h3 : a3 < 16) (b0 b1 b2 b3 b4 : Nat) (g0 : b0 < 16) (g1 : b1 < 16) (g2 : b2 < 16) (g3 : b3 < 16) (hm : m = b0 + 16 * (b1 + 16 * (b2 + 16 * (b3 + 16 * b4)))) : (a0 + 16 * (a1 + 16 * (a2 + 16 * a3))) &&& m = (a0 &&& b0) + 16 * ((a1 &&& b1) + 16 * ((a2 &&& b2) + 16 * (a3 &&& b3))) := by
  rw [hm, and16 _ _ _ _ h0 g0, and16 _ _ _ _ h1 g1, and16 _ _ _ _ h2 g2]
  have := and16 a3 0 b3 b4 h3 g3
  rw [Nat.zero_and, Nat.mul_zero, Nat.add_zero, Nat.add_zero] at this
  rw [this]
theorem sub_nib {n0 n1 n2 n3 t0 t1 t2 t3 : Nat} (h0 : t0 ≤ n0) (h1 : t1 ≤ n1) (h2 : t2 ≤ n2) (h3 : t3 ≤ n3) : (n0 + 16 * (n1 + 16 * (n2 + 16 * n3))) - (t0 + 16 * (t1 + 16 * (t2 + 16 * t3))) = (n0 - t0) + 16 * ((n1 - t1) + 16 * ((n2 - t2) + 16 * (n3 - t3))) := by omega
theorem le_nib {n0 n1 n2 n3 t0 t1 t2 t3 : Nat} (h0 : t0 ≤ n0) (h1 : t1 ≤ n1) (h2 : t2 ≤ n2) (h3 : t3 ≤ n3) : (t0 + 16 * (t1 + 16 * (t2 + 16 * t3))) ≤ (n0 + 16 * (n1 + 16 * (n2 + 16 * n3))) := by omega
theorem half_nib (n0 n1 n2 n3 : Nat) : (n0 + 16 * (n1 + 16 * (n2 + 16 * n3))) / 2 = (n0 / 2 + 8 * (n1 % 2)) + 16 * ((n1 / 2 + 8 * (n2 % 2)) + 16 * ((n2 / 2 + 8 * (n3 % 2)) + 16 * (n3 / 2))) := by omega
theorem quart_nib (n0 n1 n2 n3 : Nat) : (n0 + 16 * (n1 + 16 * (n2 + 16 * n3))) / 4 = (n0 / 4 + 4 * (n1 % 4)) + 16 * ((n1 / 4 + 4 * (n2 % 4)) + 16 * ((n2 / 4 + 4 * (n3 % 4)) + 16 * (n3 / 4))) := by omega
theorem pop_nib {n m : Nat} (hn : n < 16) : ∀ j, popL (n + 16 * m) (4 + j) = popL n 4 + popL m j
  | 0 => by
    simp only [popL, Nat.add_zero]
    omega
  | j + 1 => by
    show popL (n + 16 * m) (4 + j) + (n + 16 * m) / 2 ^ (4 + j) % 2 = popL n 4 + (popL m j + m / 2 ^ j % 2)
    rw [pop_nib hn j, Nat.pow_add, ← Nat.div_div_eq_div_mul, show (n + 16 * m) / 2 ^ 4 = m by omega, Nat.add_assoc]
theorem pop_4 {n0 n1 n2 n3 : Nat} (h0 : n0 < 16) (h1 : n1 < 16) (h2 : n2 < 16) : pop (n0 + 16 * (n1 + 16 * (n2 + 16 * n3))) = popL n0 4 + (popL n1 4 + (popL n2 4 + popL n3 4)) := by
  unfold pop
  rw [show (16 : Nat) = 4 + (4 + (4 + 4)) from rfl, pop_nib h0, pop_nib h1, pop_nib h2]
theorem bc_s1 {n0 n1 n2 n3 : Nat} (h0 : n0 < 16) (h1 : n1 < 16) (h2 : n2 < 16) (h3 : n3 < 16) : bc1 (nI (n0 + 16 * (n1 + 16 * (n2 + 16 * n3)))) = nI ((n0 - (n0 / 2 &&& 5)) + 16 * ((n1 - (n1 / 2 &&& 5)) + 16 * ((n2 - (n2 / 2 &&& 5)) + 16 * (n3 - (n3 / 2 &&& 5))))) := by
  unfold bc1
  have e := half_nib n0 n1 n2 n3
  rw [show ((nI (n0 + 16 * (n1 + 16 * (n2 + 16 * n3)))).toUInt32 >>> ((1 : Int32).toUInt32 &&& Int32.toUInt32 31)).toInt32 = nI ((n0 + 16 * (n1 + 16 * (n2 + 16 * n3))) / 2) from nI_ushr (i := 1) (by decide) (by omega), show (1431655765 : Int32) = nI 1431655765 from rfl, fa_and, e,
    and_nib _ _ _ _ _ (by omega) (by omega) (by omega) (by omega) 5 5 5 5 21845 (by decide) (by decide) (by decide) (by decide) (by decide), n4_1 n0 h0 _ (by omega), n4_1 n1 h1 _ (by omega), n4_1 n2 h2 _ (by omega)]
  rw [pk_sub (le_nib (n4_2 n0 h0).1 (n4_2 n1 h1).1 (n4_2 n2 h2).1 (n4_2 n3 h3).1), sub_nib (n4_2 n0 h0).1 (n4_2 n1 h1).1 (n4_2 n2 h2).1 (n4_2 n3 h3).1]
theorem add_nib (a0 a1 a2 a3 b0 b1 b2 b3 : Nat) : (a0 + 16 * (a1 + 16 * (a2 + 16 * a3))) + (b0 + 16 * (b1 + 16 * (b2 + 16 * b3))) = (a0 + b0) + 16 * ((a1 + b1) + 16 * ((a2 + b2) + 16 * (a3 + b3))) := by omega
theorem bc_s2 {n0 n1 n2 n3 : Nat} (h0 : n0 < 16) (h1 : n1 < 16) (h2 : n2 < 16) (h3 : n3 < 16) : bc2 (nI (n0 + 16 * (n1 + 16 * (n2 + 16 * n3)))) = nI (((n0 &&& 3) + (n0 / 4 &&& 3)) + 16 * (((n1 &&& 3) + (n1 / 4 &&& 3)) + 16 * (((n2 &&& 3) + (n2 / 4 &&& 3)) + 16 * ((n3 &&& 3) + (n3 / 4 &&& 3))))) := by
  unfold bc2
  have e := quart_nib n0 n1 n2 n3
  rw [show ((nI (n0 + 16 * (n1 + 16 * (n2 + 16 * n3)))).toUInt32 >>> ((2 : Int32).toUInt32 &&& Int32.toUInt32 31)).toInt32 = nI ((n0 + 16 * (n1 + 16 * (n2 + 16 * n3))) / 4) from nI_ushr (i := 2) (by decide) (by omega), show (858993459 : Int32) = nI 858993459 from rfl, fa_and, fa_and, e,
    and_nib _ _ _ _ _ h0 h1 h2 h3 3 3 3 3 13107 (by decide) (by decide) (by decide) (by decide) (by decide), and_nib _ _ _ _ _ (by omega) (by omega) (by omega) (by omega) 3 3 3 3 13107 (by decide) (by decide) (by decide) (by decide) (by decide), n4_3 n0 h0 _ (by omega), n4_3 n1 h1 _ (by omega), n4_3 n2 h2 _ (by omega), nI_add, add_nib]
theorem n4_5 : ∀ n, n < 16 → ((n - (n / 2 &&& 5)) &&& 3) + ((n - (n / 2 &&& 5)) / 4 &&& 3) = popL n 4 := by decide +kernel
theorem bc_s3 {k0 k1 k2 k3 : Nat} (l0 : k0 ≤ 4) (l1 : k1 ≤ 4) (l2 : k2 ≤ 4) (l3 : k3 ≤ 4) : bc3 (nI (k0 + 16 * (k1 + 16 * (k2 + 16 * k3)))) = nI ((k0 + k1) + 256 * (k2 + k3)) := by
  unfold bc3
  have e : (k0 + 16 * (k1 + 16 * (k2 + 16 * k3))) + (k0 + 16 * (k1 + 16 * (k2 + 16 * k3))) / 16 = (k0 + k1) + 16 * ((k1 + k2) + 16 * ((k2 + k3) + 16 * k3)) := by omega
  have q : ∀ n, n < 16 → n &&& 15 = n := by decide
  rw [show ((nI (k0 + 16 * (k1 + 16 * (k2 + 16 * k3)))).toUInt32 >>> ((4 : Int32).toUInt32 &&& Int32.toUInt32 31)).toInt32 = nI ((k0 + 16 * (k1 + 16 * (k2 + 16 * k3))) / 16) from nI_ushr (i := 4) (by decide) (by omega), show (252645135 : Int32) = nI 252645135 from rfl, nI_add, fa_and, e,
    and_nib _ _ _ _ _ (by omega) (by omega) (by omega) (by omega) 15 0 15 0 3855 (by decide) (by decide) (by decide) (by decide) (by decide), q _ (by omega), q _ (by omega), Nat.and_zero, Nat.and_zero]
  exact congrArg nI (by omega)
theorem bc_s4 {a b : Nat} (h : a ≤ 8) (h2 : b ≤ 8) : bc4 (nI (a + 256 * b)) = nI ((a + b) + 256 * b) := by
  unfold bc4
  rw [show ((nI (a + 256 * b)).toUInt32 >>> ((8 : Int32).toUInt32 &&& Int32.toUInt32 31)).toInt32 = nI ((a + 256 * b) / 256) from nI_ushr (i := 8) (by decide) (by omega), nI_add]
  exact congrArg nI (by omega)
theorem bc_s5 {x : Nat} (h : x < 65536) : bc5 (nI x) = nI x := by
  unfold bc5
  rw [show ((nI x).toUInt32 >>> ((16 : Int32).toUInt32 &&& Int32.toUInt32 31)).toInt32 = nI (x / 65536) from nI_ushr (i := 16) (by decide) (by omega), nI_add]
  exact congrArg nI (by omega)
theorem bc_eq {p : Nat} (h : p < 65536) : bcI (nI p) = nI (pop p) := by
  obtain ⟨n0, n1, n2, n3, h0, h1, h2, h3, rfl⟩ : ∃ n0 n1 n2 n3 : Nat, n0 < 16 ∧ n1 < 16 ∧ n2 < 16 ∧ n3 < 16 ∧ p = n0 + 16 * (n1 + 16 * (n2 + 16 * n3)) := ⟨p % 16, p / 16 % 16, p / 256 % 16, p / 4096, by omega, by omega, by omega, by omega, by omega⟩
  unfold bcI
  rw [bc_s1 h0 h1 h2 h3, bc_s2 (Nat.lt_of_le_of_lt (Nat.sub_le _ _) h0) (Nat.lt_of_le_of_lt (Nat.sub_le _ _) h1) (Nat.lt_of_le_of_lt (Nat.sub_le _ _) h2) (Nat.lt_of_le_of_lt (Nat.sub_le _ _) h3), n4_5 n0 h0, n4_5 n1 h1, n4_5 n2 h2, n4_5 n3 h3,
    bc_s3 (popL_le _ 4) (popL_le _ 4) (popL_le _ 4) (popL_le _ 4)]
  have l0 := popL_le n0 4
  have l1 := popL_le n1 4
  have l2 := popL_le n2 4
  have l3 := popL_le n3 4
  rw [bc_s4 (by omega) (by omega), bc_s5 (by omega), show (63 : Int32) = nI 63 from rfl, fa_and, show (63 : Nat) = 2 ^ 6 - 1 from rfl, Nat.and_two_pow_sub_one_eq_mod, pop_4 h0 h1 h2]
  exact congrArg nI (by omega)
