/-! the reference: numbers, pictures, sets -/
def inB (v l m : Int32) : Bool := decide (l ≤ v ∧ v ≤ m)
def bndI (v l m : Int32) : Int32 := if v < l then -4 else if m < v then -6 else 0
theorem i_le_of_nlt {x y : Int32} (h : ¬ x < y) : y ≤ x := by rw [fa_le]; rw [fa_lt] at h; omega
theorem i_lt_of_nle {x y : Int32} (h : ¬ x ≤ y) : y < x := by rw [fa_lt]; rw [fa_le] at h; omega
theorem i_nlt_of_le {x y : Int32} (h : x ≤ y) : ¬ y < x := by rw [fa_lt]; rw [fa_le] at h; omega
theorem m_isIn (d : Nat) (ws : xH) (v l m : Int32) : xCt xMs (d + 1) nX6_isIn [.int v, .int l, .int m] ws (xRet (bI (inB v l m)) ws) := by
  refine xS (M := mX6_isIn) rfl rfl pX6_isIn rfl (fun G g1 g2 g3 => ?_)
  refine xwp_go g1 [] 100 _ _ _ _ ?_
  refine And.intro (fun h => ?_) (fun h => ?_)
  · exact xrz (G := G) g2 rfl (Or.inl rfl) (by unfold inB; rw [decide_eq_false (fun z => i_nlt_of_le z.1 h)]; rfl) rfl
  refine And.intro (fun h' => ?_) (fun h' => ?_)
  · exact xrz (G := G) g2 rfl (Or.inl rfl) (by unfold inB; rw [decide_eq_false (fun z => i_nlt_of_le z.2 h')]; rfl) rfl
  · exact xrz (G := G) g2 rfl (Or.inr rfl) (by unfold inB; rw [decide_eq_true ⟨i_le_of_nlt h, i_le_of_nlt h'⟩]; rfl) rfl
theorem m_bound (d : Nat) (ws : xH) (v l m : Int32) : xCt xMs (d + 1) nX6_bound [.int v, .int l, .int m] ws (xRet (bndI v l m) ws) := by
  refine xS (M := mX6_bound) rfl rfl pX6_bound rfl (fun G g1 g2 g3 => ?_)
  refine xwp_go g1 [] 100 _ _ _ _ ?_
  refine And.intro (fun h => ?_) (fun h => ?_)
  · refine And.intro (fun h' => ?_) (fun h' => ?_)
    · exact xri (G := G) g2 rfl (by unfold bndI; rw [if_neg (i_nlt_of_le h), if_neg (i_nlt_of_le h')]) rfl
    · exact xri (G := G) g2 rfl (by unfold bndI; rw [if_neg (i_nlt_of_le h), if_pos (i_lt_of_nle h')]) rfl
  · exact xri (G := G) g2 rfl (by unfold bndI; rw [if_pos (i_lt_of_nle h)]) rfl
theorem m_bits (d : Nat) (ws : xH) {p : Nat} (hp : p < 65536) : xCt xMs (d + 1) nX6_bits [.int (nI p)] ws (xRet (nI (pop p)) ws) := by
  refine xS (M := mX6_bits) rfl rfl pX6_bits rfl (fun G g1 g2 g3 => ?_)
  refine xwp_go g1 [4] 100 _ _ _ _ ?_
  refine up (k := 31) (P := fun i => ∀ x y, x = nI i → y = nI (popL p i) → G 4 [some (.int (nI p)), some (.int y), some (.int x)] [] ws) ?_ ?_ 0 (Nat.zero_le _) _ _ rfl rfl
  · intro x y hx hy
    subst hx; subst hy
    refine xwp_go g1 [4] 100 _ _ _ _ ?_
    exact And.intro (fun h => xri (G := G) g2 rfl (by rw [pop31 hp]) rfl) (fun h => absurd (by decide) h)
  · intro i hi ih x y hx hy
    subst hx; subst hy
    refine xwp_go g1 [4] 100 _ _ _ _ ?_
    refine And.intro (fun h => absurd h (nI_ge (b := 31) hi (by decide))) (fun h => ?_)
    exact ih _ _ (nI_1 i) (by rw [nI_bit (by omega) (by omega), nI_add]; rfl)
theorem bit_lt (p c : Nat) : p / 2 ^ c % 2 < 2 := Nat.mod_lt _ (by decide)
theorem sh_bit {p c g : Nat} (hg : g < 16) : nI (p / 2 ^ c % 2) <<< (nI g &&& 31) = nI (p / 2 ^ c % 2 * 2 ^ g) := by
  have h1 := bit_lt p c
  have h2 : (2 : Nat) ^ g < 2 ^ 16 := Nat.pow_lt_pow_right (by decide) hg
  refine nI_shl (by omega) ?_
  have : p / 2 ^ c % 2 * 2 ^ g ≤ 1 * 2 ^ g := Nat.mul_le_mul_right _ (by omega)
  omega
theorem m_mirrored (d : Nat) (ws : xH) {p : Nat} (hp : p < 65536) : xCt xMs (d + 1) nX6_mirrored [.int (nI p)] ws (xRet (nI (mirN p)) ws) := by
  refine xS (M := mX6_mirrored) rfl rfl pX6_mirrored rfl (fun G g1 g2 g3 => ?_)
  refine xwp_go g1 [4] 100 _ _ _ _ ?_
  refine up (k := 16) (P := fun i => ∀ x y, x = nI i → y = nI (pm gMir p i) → G 4 [some (.int (nI p)), some (.int y), some (.int x)] [] ws) ?_ ?_ 0 (Nat.zero_le _) _ _ rfl rfl
  · intro x y hx hy
    subst hx; subst hy
    refine xwp_go g1 [4] 100 _ _ _ _ ?_
    exact And.intro (fun h => xri (G := G) g2 rfl rfl rfl) (fun h => absurd (by decide) h)
  · intro i hi ih x y hx hy
    subst hx; subst hy
    refine xwp_go g1 [4] 100 _ _ _ _ ?_
    refine And.intro (fun h => absurd h (nI_ge (b := 16) hi (by decide))) (fun h => ?_)
    refine And.intro (by decide) ?_
    refine And.intro (by decide) ?_
    refine ih _ _ (nI_1 i) ?_
    have e : nI i / 4 * 4 + 3 - (nI i - nI i / 4 * 4) = nI (gMir i) := by
      rw [show (4 : Int32) = nI 4 from rfl, pk_rem (by omega) (by decide) (by decide), pk_div (by omega) (by decide) (by decide), pk_mul, show (3 : Int32) = nI 3 from rfl, nI_add, pk_sub (by omega)]
      rfl
    rw [e, nI_bit (by omega) (by omega), sh_bit (by unfold gMir; omega), fa_or]
    rfl
theorem m_upsideDown (d : Nat) (ws : xH) {p : Nat} (hp : p < 65536) : xCt xMs (d + 1) nX6_upsideDown [.int (nI p)] ws (xRet (nI (flipN p)) ws) := by
  refine xS (M := mX6_upsideDown) rfl rfl pX6_upsideDown rfl (fun G g1 g2 g3 => ?_)
  refine xwp_go g1 [4] 100 _ _ _ _ ?_
  refine up (k := 16) (P := fun i => ∀ x y, x = nI i → y = nI (pm gFlip p i) → G 4 [some (.int (nI p)), some (.int y), some (.int x)] [] ws) ?_ ?_ 0 (Nat.zero_le _) _ _ rfl rfl
  · intro x y hx hy
    subst hx; subst hy
    refine xwp_go g1 [4] 100 _ _ _ _ ?_
    exact And.intro (fun h => xri (G := G) g2 rfl rfl rfl) (fun h => absurd (by decide) h)
  · intro i hi ih x y hx hy
    subst hx; subst hy
    refine xwp_go g1 [4] 100 _ _ _ _ ?_
    refine And.intro (fun h => absurd h (nI_ge (b := 16) hi (by decide))) (fun h => ?_)
    refine And.intro (by decide) ?_
    refine And.intro (by decide) ?_
    refine ih _ _ (nI_1 i) ?_
    have e : 12 - nI i / 4 * 4 + (nI i - nI i / 4 * 4) = nI (gFlip i) := by
      rw [show (4 : Int32) = nI 4 from rfl, pk_rem (by omega) (by decide) (by decide), pk_div (by omega) (by decide) (by decide), pk_mul, show (12 : Int32) = nI 12 from rfl, pk_sub (by omega), nI_add]
      rfl
    rw [e, nI_bit (by omega) (by omega), sh_bit (by unfold gFlip; omega), fa_or]
    rfl
theorem m_shifted (d : Nat) (ws : xH) {p k : Nat} (hp : p < 65536) (hk : k < 4) : xCt xMs (d + 1) nX6_shifted [.int (nI p), .int (nI k)] ws (xRet (nI (shiftN p k)) ws) := by
  refine xS (M := mX6_shifted) rfl rfl pX6_shifted rfl (fun G g1 g2 g3 => ?_)
  refine xwp_go g1 [4] 100 _ _ _ _ ?_
  refine up (k := 16) (P := fun i => ∀ x y, x = nI i → y = nI (pm (gShift k) p i) → G 4 [some (.int (nI p)), some (.int (nI k)), some (.int y), some (.int x)] [] ws) ?_ ?_ 0 (Nat.zero_le _) _ _ rfl rfl
  · intro x y hx hy
    subst hx; subst hy
    refine xwp_go g1 [4] 100 _ _ _ _ ?_
    exact And.intro (fun h => xri (G := G) g2 rfl rfl rfl) (fun h => absurd (by decide) h)
  · intro i hi ih x y hx hy
    subst hx; subst hy
    refine xwp_go g1 [4] 100 _ _ _ _ ?_
    refine And.intro (fun h => absurd h (nI_ge (b := 16) hi (by decide))) (fun h => ?_)
    refine And.intro (by decide) ?_
    refine And.intro (by decide) ?_
    refine And.intro (by decide) ?_
    refine ih _ _ (nI_1 i) ?_
    have e : nI i / 4 * 4 + ((nI i - nI i / 4 * 4) + nI k - ((nI i - nI i / 4 * 4) + nI k) / 4 * 4) = nI (gShift k i) := by
      rw [show (4 : Int32) = nI 4 from rfl, pk_rem (by omega) (by decide) (by decide), pk_div (by omega) (by decide) (by decide), pk_mul, nI_add, pk_rem (by omega) (by decide) (by decide), nI_add]
      rfl
    rw [e, nI_bit (by omega) (by omega), sh_bit (by unfold gShift; omega), fa_or]
    rfl
theorem m_isSlide (d : Nat) {q : LQ} {a : Nat → Nat → Int32} {s : Nat → Int32} (hr : relS q a s) (x : Int32) : xCt xMs (d + 1) nX6_isSlide [.ref 0, .int x] (eM a s) (xRet (bI (hasB (q 6 0) x)) (eM a s)) := by
  have h0 := hr.2.2.2.1
  refine xV (M := mX6_isSlide) rfl rfl rfl rfl rfl pX6_isSlide rfl (fun G g1 g2 g3 => ?_)
  refine xwp_go g1 [] 100 _ _ _ _ ?_
  refine And.intro (fun h => ?_) (fun h => ?_)
  · exact xrz (G := G) g2 rfl (Or.inl rfl) (by rw [hasB_n1 h]; rfl) rfl
  · refine And.intro (fun h' => ?_) (fun h' => ?_) <;> rw [h0] at h'
    · exact xrz (G := G) g2 rfl (Or.inl rfl) (by rw [hasB_n2 h']; rfl) rfl
    · exact xrz (G := G) g2 rfl (Or.inr rfl) (by rw [hasB_y h h']; rfl) rfl
theorem m_areSlides (d : Nat) {q : LQ} {a : Nat → Nat → Int32} {s : Nat → Int32} (hr : relS q a s) (x : Int32) : xCt xMs (d + 1) nX6_areSlides [.ref 0, .int x] (eM a s) (xRet (bI (setB (q 6 0) x)) (eM a s)) := by
  have h0 := hr.2.2.2.1
  have h8 := hr.1.1
  refine xV (M := mX6_areSlides) rfl rfl rfl rfl rfl pX6_areSlides rfl (fun G g1 g2 g3 => ?_)
  refine xwp_go g1 [] 100 _ _ _ _ ?_
  refine And.intro (fun h => ?_) (fun h => ?_)
  · exact xrz (G := G) g2 rfl (Or.inl rfl) (by rw [set_n h8 h]; rfl) rfl
  · refine And.intro (fun h' => ?_) (fun h' => ?_) <;> rw [h0, set_m h8 h] at h'
    · exact xrz (G := G) g2 rfl (Or.inl rfl) (by rw [Bool.eq_false_iff.mpr h']; rfl) rfl
    · exact xrz (G := G) g2 rfl (Or.inr rfl) (by rw [h']; rfl) rfl
theorem m_isShow (d : Nat) {q : LQ} {a : Nat → Nat → Int32} {s : Nat → Int32} (hr : relS q a s) (x : Int32) : xCt xMs (d + 2) nX6_isShow [.ref 0, .int x] (eM a s) (xRet (bI (showB (q 6 0) x)) (eM a s)) := by
  refine xV (M := mX6_isShow) rfl rfl rfl rfl rfl pX6_isShow rfl (fun G g1 g2 g3 => ?_)
  refine xwp_go g1 [] 100 _ _ _ _ ?_
  refine xcallR (G := G) g3 [0, 1, 2, 3, 4, 5, 6, 7, 8, 9, 10, 11, 12, 13, 14, 15, 16] (m_areSlides d hr x) ?_
  refine xwp_go g1 [] 100 _ _ _ _ ?_
  refine And.intro (fun h => ?_) (fun h => ?_) <;> rw [bI_0] at h
  · exact xrz (G := G) g2 rfl (Or.inl rfl) (by unfold showB; rw [h]; rfl) rfl
  · rw [Bool.not_eq_false] at h
    obtain ⟨m, hm, rfl⟩ := setB_of h
    have := lt256 hr.1
    refine xcallR (G := G) g3 [] (m_bits d [] (p := m) (by omega)) ?_
    refine xwp_go g1 [] 100 _ _ _ _ ?_
    refine xcallR (G := G) g3 [] (m_isIn d [] _ _ _) ?_
    refine xwp_go g1 [] 100 _ _ _ _ ?_
    have hp := pop_le m
    have e : inB (nI (pop m)) 1 4 = (!decide (nI m = 0) && decide (pop m ≤ 4)) := by
      unfold inB
      have ee : ((1 : Int32) ≤ nI (pop m) ∧ nI (pop m) ≤ (4 : Int32)) ↔ (1 ≤ pop m ∧ pop m ≤ 4) := by
        rw [show (1 : Int32) = nI 1 from rfl, show (4 : Int32) = nI 4 from rfl, nI_leI (by decide) (by omega), nI_leI (by omega) (by decide)]
      rw [show decide ((1 : Int32) ≤ nI (pop m) ∧ nI (pop m) ≤ (4 : Int32)) = decide (1 ≤ pop m ∧ pop m ≤ 4) from decide_eq_decide.mpr ee]
      have e0 : nI m = 0 ↔ ¬ 1 ≤ pop m := by
        rw [show (0 : Int32) = nI 0 from rfl, nI_eq (by omega) (by decide)]
        constructor
        · intro h; rw [h]; decide
        · intro h
          have h0 : pop m = 0 := by omega
          have key : ∀ k, popL m k = 0 → m < 2 ^ 16 → ∀ i, i < k → m.testBit i = false := by
            intro k
            induction k with
            | zero => intro _ _ i hi; omega
            | succ k ih =>
              intro h1 h2 i hi
              have h3 : popL m k + m / 2 ^ k % 2 = 0 := h1
              rcases (by omega : i < k ∨ i = k) with h4 | rfl
              · exact ih (by omega) h2 i h4
              · have h5 := bit_tb m i
                cases hb : m.testBit i with
                | false => rfl
                | true => rw [hb, if_pos rfl] at h5; omega
          apply Nat.eq_of_testBit_eq
          intro i
          rw [Nat.zero_testBit]
          by_cases hi : i < 16
          · exact key 16 h0 (by omega) i hi
          · exact Nat.testBit_lt_two_pow (Nat.lt_of_lt_of_le (show m < 2 ^ 16 by omega) (Nat.pow_le_pow_right (by decide) (by omega)))
      by_cases h1 : 1 ≤ pop m
      · rw [decide_eq_false (fun z => (e0.mp z) h1)]
        simp [h1]
      · rw [decide_eq_true (e0.mpr h1)]
        simp [h1]
    have es : showB (q 6 0) (nI m) = inB (nI (pop m)) 1 4 := by
      unfold showB
      rw [h, pk_tn (by omega), e, Bool.true_and]
    rw [es] at g2
    refine And.intro (fun h => ?_) (fun h => ?_) <;> rw [bI_0] at h
    · exact xrz (G := G) g2 rfl (Or.inl rfl) (by rw [h]; rfl) rfl
    · rw [Bool.not_eq_false] at h
      exact xrz (G := G) g2 rfl (Or.inr rfl) (by rw [h]; rfl) rfl
theorem m_isWish (d : Nat) {q : LQ} {a : Nat → Nat → Int32} {s : Nat → Int32} (hr : relS q a s) {p : Nat} (hp : p < 65536) : xCt xMs (d + 1) nX6_isWish [.ref 0, .int (nI p)] (eM a s) (xRet (bI (wishB q p)) (eM a s)) := by
  obtain ⟨hok, hA, hW, h0, h1, h2⟩ := hr
  have h6 := hok.2.1
  refine xV (M := mX6_isWish) rfl rfl rfl rfl rfl pX6_isWish rfl (fun G g1 g2 g3 => ?_)
  refine xwp_go g1 [2] 100 _ _ _ _ ?_
  refine up (k := q 6 1) (P := fun i => ∀ x, x = nI i → (∀ j, j < i → q 5 j ≠ p) → G 2 [some (.ref 0), some (.int (nI p)), some (.int x)] [] (eM a s)) ?_ ?_ 0 (Nat.zero_le _) _ rfl (fun j hj => absurd hj (Nat.not_lt_zero j))
  · intro x hx hn
    subst hx
    refine xwp_go g1 [2] 100 _ _ _ _ ?_
    refine And.intro (fun h => ?_) (fun h => ?_)
    · exact xrz (G := G) g2 rfl (Or.inl rfl) (by rw [wishB_n hn]; rfl) rfl
    · rw [h1] at h
      exact absurd (nI_le (Nat.le_refl _) (by omega)) h
  · intro i hi ih x hx hn
    subst hx
    refine xwp_go g1 [2] 100 _ _ _ _ ?_
    refine And.intro (fun h => ?_) (fun h => ?_)
    · rw [h1] at h
      exact absurd h (nI_ge hi (by omega))
    · refine And.intro (vp_in_nI (by omega) (by decide)) ?_
      have e : a 5 (nI i).toNatClampNeg = nI (q 5 i) := by rw [nI_clamp (by omega), hW i hi]
      have hb := hok.2.2.2.2.2 i hi
      refine And.intro (fun h' => ?_) (fun h' => ?_) <;> rw [e, nI_eq (by omega) (by omega)] at h'
      · refine ih _ (nI_1 i) (fun j hj => ?_)
        rcases (by omega : j < i ∨ j = i) with h3 | rfl
        · exact hn j h3
        · exact h'
      · exact xrz (G := G) g2 rfl (Or.inr rfl) (by rw [wishB_y hi h']; rfl) rfl
theorem m_onSlide (d : Nat) {q : LQ} {a : Nat → Nat → Int32} {s : Nat → Int32} (hr : relS q a s) {i : Nat} (hi : i < q 6 0) : xCt xMs (d + 2) nX6_onSlide [.ref 0, .int (nI i)] (eM a s) (xRet (nI (onQ q i)) (eM a s)) := by
  obtain ⟨hok, hA, hW, h0, h1, h2⟩ := hr
  have h6 := hok.1
  obtain ⟨k0, k1, k2, k3, k4⟩ := hA i hi
  obtain ⟨b0, b1, b2, b3, b4⟩ := hok.2.2.2.2.1 i hi
  have e2 : a 2 (nI i).toNatClampNeg = nI (q 2 i) := by rw [nI_clamp (by omega), k2]
  have e0 : a 0 (nI i).toNatClampNeg = nI (q 0 i) := by rw [nI_clamp (by omega), k0]
  have e1 : a 1 (nI i).toNatClampNeg = nI (q 1 i) := by rw [nI_clamp (by omega), k1]
  have ne : ∀ {c : Nat}, c < 6 → ¬ nI (q 0 i) = nI c → q 0 i ≠ c := fun hc h e => h (by rw [e])
  have eq : ∀ {c : Nat}, c < 6 → nI (q 0 i) = nI c → q 0 i = c := fun hc h => (nI_eq (by omega) (by omega)).mp h
  have hin : vp_in (nI i) 8 := vp_in_nI (by omega) (by decide)
  have ec : nI (q 2 i) &&& ((1 : Int32) <<< (nI (q 1 i) &&& 31) ^^^ (-1)) = nI (clr (q 2 i) (q 1 i)) := by rw [nI_pow (by omega), nI_andn]; rfl
  refine xV (M := mX6_onSlide) rfl rfl rfl rfl rfl pX6_onSlide rfl (fun G g1 g2 g3 => ?_)
  refine xwp_go g1 [] 100 _ _ _ _ ?_
  refine And.intro hin (And.intro hin ?_)
  rw [e0]
  refine And.intro (fun h => ?_) (fun h1 => ?_)
  · refine xcallR (G := G) g3 [] (ag1 e2 (m_mirrored d [] b2)) ?_
    refine xwp_go g1 [] 100 _ _ _ _ ?_
    exact xri (G := G) g2 rfl (by rw [on_1 (eq (c := 1) (by decide) h)]) rfl
  refine And.intro (fun h => ?_) (fun h2 => ?_)
  · refine xcallR (G := G) g3 [] (ag1 e2 (m_mirrored d [] b2)) ?_
    refine xwp_go g1 [] 100 _ _ _ _ ?_
    refine xcallR (G := G) g3 [] (m_upsideDown d [] (mirN_lt _)) ?_
    refine xwp_go g1 [] 100 _ _ _ _ ?_
    exact xri (G := G) g2 rfl (by rw [on_2 (eq (c := 2) (by decide) h)]) rfl
  refine And.intro (fun h => ?_) (fun h3 => ?_)
  · refine xri (G := G) g2 rfl ?_ rfl
    rw [e2, show (65535 : Int32) = nI 65535 from rfl, nI_andn, on_3 (eq (c := 3) (by decide) h)]
    rfl
  refine And.intro (fun h => ?_) (fun h4 => ?_)
  · refine And.intro hin ?_
    exact xri (G := G) g2 rfl (by rw [e2, e1, ec, on_4 (eq (c := 4) (by decide) h)]) rfl
  refine And.intro (fun h => ?_) (fun h5 => ?_)
  · refine And.intro hin (And.intro hin (And.intro (by decide) ?_))
    have ec2 : a 2 (nI i).toNatClampNeg &&& ((1 : Int32) <<< (a 1 (nI i).toNatClampNeg &&& 31) ^^^ (-1)) = nI (clr (q 2 i) (q 1 i)) := by rw [e2, e1, ec]
    have er : a 1 (nI i).toNatClampNeg - a 1 (nI i).toNatClampNeg / 4 * 4 = nI (q 1 i % 4) := by rw [e1, show (4 : Int32) = nI 4 from rfl, pk_rem (by omega) (by decide) (by decide)]
    refine xcallR (G := G) g3 [] (ag2 ec2 er (m_shifted d [] (clr_lt (n := 16) b2) (Nat.mod_lt _ (by decide)))) ?_
    refine xwp_go g1 [] 100 _ _ _ _ ?_
    exact xri (G := G) g2 rfl (by rw [on_5 (eq (c := 5) (by decide) h)]) rfl
  · refine xri (G := G) g2 rfl ?_ rfl
    have := ne (c := 1) (by decide) h1
    have := ne (c := 2) (by decide) h2
    have := ne (c := 3) (by decide) h3
    have := ne (c := 4) (by decide) h4
    have := ne (c := 5) (by decide) h5
    rw [e2, on_0 (by omega)]
