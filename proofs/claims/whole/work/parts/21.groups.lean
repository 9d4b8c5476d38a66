/-! groups of cells: the class grows sixteen times, the reference till nothing changes -/
theorem popL_mono {a b : Nat} (h : ∀ i, a.testBit i = true → b.testBit i = true) : ∀ k, popL a k ≤ popL b k
  | 0 => Nat.le_refl _
  | k + 1 => by
    have ih := popL_mono h k
    show popL a k + a / 2 ^ k % 2 ≤ popL b k + b / 2 ^ k % 2
    rw [bit_tb, bit_tb]
    have := h k
    cases ha : a.testBit k with
    | false => simp; omega
    | true => rw [this ha]; simp; exact ih
theorem popL_lt {a b : Nat} (h : ∀ i, a.testBit i = true → b.testBit i = true) {j : Nat} (ha : a.testBit j = false) (hb : b.testBit j = true) : ∀ k, j < k → popL a k < popL b k
  | 0, hj => by omega
  | k + 1, hj => by
    show popL a k + a / 2 ^ k % 2 < popL b k + b / 2 ^ k % 2
    rw [bit_tb, bit_tb]
    rcases (by omega : j < k ∨ j = k) with q | rfl
    · have ih := popL_lt h ha hb k q
      have := h k
      cases hak : a.testBit k with
      | false => simp; split <;> omega
      | true => rw [this hak]; simp; exact ih
    · have ih := popL_mono h j
      rw [ha, hb]
      simp
      omega
theorem sub_tb {a b : Nat} (h : a &&& b = a) (i : Nat) (hi : a.testBit i = true) : b.testBit i = true := by
  have : (a &&& b).testBit i = true := by rw [h]; exact hi
  rw [Nat.testBit_and] at this
  simp at this
  exact this.2
theorem pop_lt {a b : Nat} (hb : b < 65536) (h : a &&& b = a) (hne : a ≠ b) : pop a < pop b := by
  have : ∃ j, a.testBit j = false ∧ b.testBit j = true := by
    refine Classical.byContradiction (fun hc => hne (Nat.eq_of_testBit_eq (fun i => ?_)))
    cases ha : a.testBit i with
    | true => rw [sub_tb h i ha]
    | false =>
      cases hbi : b.testBit i with
      | false => rfl
      | true => exact absurd ⟨i, ha, hbi⟩ hc
  obtain ⟨j, h1, h2⟩ := this
  refine popL_lt (sub_tb h) h1 h2 16 ?_
  rcases Nat.lt_or_ge j 16 with q | q
  · exact q
  · rw [Nat.testBit_lt_two_pow (Nat.lt_of_lt_of_le hb (Nat.pow_le_pow_right (n := 2) (by decide) q))] at h2
    cases h2
theorem pop_pos {a : Nat} (ha : a < 65536) (h : a ≠ 0) : 0 < pop a := by
  have := pop_lt (a := 0) ha (Nat.zero_and a) (Ne.symm h)
  have e : pop 0 = 0 := by decide
  omega
/-- one growth -/
def growN (among g : Nat) : Nat := g ||| ((((g &&& 30583) * 2 ||| (g &&& 61166) / 2) ||| g * 16 ||| g / 16) &&& among)
def itN (among b : Nat) : Nat → Nat
  | 0 => b
  | k + 1 => growN among (itN among b k)
theorem growN_sub (among g : Nat) : g &&& growN among g = g := by
  apply Nat.eq_of_testBit_eq
  intro i
  unfold growN
  rw [Nat.testBit_and, Nat.testBit_or]
  cases g.testBit i <;> rfl
theorem growN_in {among g : Nat} (h : g &&& among = g) : growN among g &&& among = growN among g := by
  apply Nat.eq_of_testBit_eq
  intro i
  unfold growN
  have := sub_tb h i
  rw [Nat.testBit_and, Nat.testBit_or, Nat.testBit_and]
  cases hg : g.testBit i with
  | true => rw [this hg]; rfl
  | false =>
    cases among.testBit i <;> simp
theorem itN_in {among b : Nat} (h : b &&& among = b) : ∀ k, itN among b k &&& among = itN among b k
  | 0 => h
  | k + 1 => growN_in (itN_in h k)
theorem le_of_sub {a b : Nat} (h : a &&& b = a) : a ≤ b := by rw [← h]; exact Nat.and_le_right
theorem it_fix {among b : Nat} (hm : among < 65536) (h : b &&& among = b) (hb : b ≠ 0) : ∃ k, k < 16 ∧ growN among (itN among b k) = itN among b k := by
  have key : ∀ k, (∃ j, j < k ∧ growN among (itN among b j) = itN among b j) ∨ k + 1 ≤ pop (itN among b k) := by
    intro k
    induction k with
    | zero => exact Or.inr (pop_pos (Nat.lt_of_le_of_lt (le_of_sub h) hm) hb)
    | succ k ih =>
      rcases ih with ⟨j, hj, e⟩ | ih
      · exact Or.inl ⟨j, by omega, e⟩
      · by_cases e : growN among (itN among b k) = itN among b k
        · exact Or.inl ⟨k, by omega, e⟩
        · refine Or.inr ?_
          have := pop_lt (a := itN among b k) (b := growN among (itN among b k)) (Nat.lt_of_le_of_lt (le_of_sub (itN_in h (k + 1))) hm) (growN_sub _ _) (Ne.symm e)
          show k + 1 + 1 ≤ pop (growN among (itN among b k))
          omega
  rcases key 16 with h1 | h1
  · exact h1
  · have := pop_le (itN among b 16)
    omega
theorem it_stay {among b k : Nat} (h : growN among (itN among b k) = itN among b k) : ∀ n, itN among b (k + n) = itN among b k
  | 0 => rfl
  | n + 1 => by
    show growN among (itN among b (k + n)) = _
    rw [it_stay h n, h]
/-- the lowest bit -/
def lwN (l : Nat) : Nat := l &&& (4294967296 - l)
theorem lwI {l : Nat} (h0 : 0 < l) (h : l < 65536) : nI l &&& -(nI l) = nI (lwN l) := by
  have e : -(nI l) = nI (4294967296 - l) := by
    apply Int32.toBitVec_inj.mp
    rw [Int32.toBitVec_neg]
    apply BitVec.eq_of_toNat_eq
    rw [BitVec.toNat_neg]
    have h1 : (nI l).toBitVec.toNat = l := pk_tn (by omega)
    have h2 : (nI (4294967296 - l)).toBitVec.toNat = 4294967296 - l := pk_tn (by omega)
    rw [h1, h2]
    omega
  rw [e, fa_and]; rfl
theorem lwN_in (l : Nat) : lwN l &&& l = lwN l := by
  apply Nat.eq_of_testBit_eq
  intro i
  unfold lwN
  rw [Nat.testBit_and, Nat.testBit_and]
  cases l.testBit i <;> simp
theorem odd_part : ∀ l, 0 < l → ∃ k m, l = 2 ^ k * (2 * m + 1) := by
  intro l
  induction l using Nat.strongRecOn with
  | _ l ih =>
    intro h
    rcases (by omega : l % 2 = 1 ∨ l % 2 = 0) with q | q
    · exact ⟨0, l / 2, by omega⟩
    · obtain ⟨k, m, e⟩ := ih (l / 2) (by omega) (by omega)
      exact ⟨k + 1, m, by rw [Nat.pow_succ, Nat.mul_comm (2 ^ k) 2, Nat.mul_assoc, ← e]; omega⟩
theorem lwN_ne {l : Nat} (h0 : 0 < l) (h : l < 65536) : lwN l ≠ 0 := by
  obtain ⟨k, m, e⟩ := odd_part l h0
  have hk : k < 16 := by
    rcases Nat.lt_or_ge k 16 with q | q
    · exact q
    · have h1 : (2 : Nat) ^ 16 ≤ 2 ^ k := Nat.pow_le_pow_right (by decide) q
      have h2 : 2 ^ k * 1 ≤ 2 ^ k * (2 * m + 1) := Nat.mul_le_mul_left _ (by omega)
      omega
  have t1 : l.testBit k = true := by
    rw [Nat.testBit_eq_decide_div_mod_eq, e, Nat.mul_div_cancel_left _ (Nat.two_pow_pos k)]
    exact decide_eq_true (by omega)
  have t2 : (4294967296 - l).testBit k = true := by
    rw [Nat.testBit_eq_decide_div_mod_eq]
    have e2 : 4294967296 - l = 2 ^ k * (2 ^ (32 - k) - (2 * m + 1)) := by
      rw [Nat.mul_sub, ← Nat.pow_add, show k + (32 - k) = 32 by omega, ← e]
    rw [e2, Nat.mul_div_cancel_left _ (Nat.two_pow_pos k)]
    have h3 : 2 ^ (32 - k) = 2 * 2 ^ (31 - k) := by rw [← Nat.pow_succ']; congr 1; omega
    have h4 : 2 * m + 1 ≤ l := by rw [e]; exact Nat.le_mul_of_pos_left _ (Nat.two_pow_pos k)
    have h5 : (2 : Nat) ^ 16 ≤ 2 ^ (31 - k) := Nat.pow_le_pow_right (by decide) (by omega)
    simp
    omega
  intro z
  have : (lwN l).testBit k = true := by
    unfold lwN
    rw [Nat.testBit_and, t1, t2]; rfl
  rw [z, Nat.zero_testBit] at this
  cases this
/-- what is left when the group of the lowest cell is taken off; how many groups -/
def offN (l : Nat) : Nat := l ^^^ (l &&& itN l (lwN l) 16)
def grpN : Nat → Nat → Nat
  | 0, _ => 0
  | f + 1, l => if l = 0 then 0 else grpN f (offN l) + 1
theorem offN_pop {l : Nat} (h0 : 0 < l) (h : l < 65536) : pop (offN l) < pop l ∧ offN l < 65536 := by
  have hlt : offN l < 65536 := Nat.xor_lt_two_pow (n := 16) h (Nat.lt_of_le_of_lt Nat.and_le_left h)
  have tb : ∀ i, (offN l).testBit i = (l.testBit i && !(itN l (lwN l) 16).testBit i) := by
    intro i
    unfold offN
    rw [Nat.testBit_xor, Nat.testBit_and]
    cases l.testBit i <;> cases (itN l (lwN l) 16).testBit i <;> rfl
  refine ⟨pop_lt h ?_ ?_, hlt⟩
  · apply Nat.eq_of_testBit_eq
    intro i
    rw [Nat.testBit_and, tb i]
    cases l.testBit i <;> simp
  · intro e
    have hin : ∀ k i, (lwN l).testBit i = true → (itN l (lwN l) k).testBit i = true := by
      intro k
      induction k with
      | zero => exact fun i h => h
      | succ k ih => exact fun i h => sub_tb (growN_sub _ _) i (ih i h)
    have : ∃ i, (lwN l).testBit i = true := by
      refine Classical.byContradiction (fun hc => lwN_ne h0 h (Nat.eq_of_testBit_eq (fun i => ?_)))
      rw [Nat.zero_testBit]
      cases hb : (lwN l).testBit i with
      | false => rfl
      | true => exact absurd ⟨i, hb⟩ hc
    obtain ⟨i, hi⟩ := this
    have h1 := tb i
    rw [e, sub_tb (lwN_in l) i hi, hin 16 i hi] at h1
    cases h1
theorem grpN_le : ∀ f l, grpN f l ≤ f
  | 0, _ => Nat.le_refl _
  | f + 1, l => by
    show (if l = 0 then 0 else grpN f (offN l) + 1) ≤ f + 1
    have := grpN_le f (offN l)
    split <;> omega
theorem c_grown (d : Nat) (ws : xH) {b l : Nat} (hl : l < 65536) (hb : b &&& l = b) : xCt xMs (d + 1) nX0_grown [.int (nI b), .int (nI l)] ws (xRet (nI (itN l b 16)) ws) := by
  refine xS (M := mX0_grown) rfl rfl pX0_grown rfl (fun G g1 g2 g3 => ?_)
  refine xwp_go g1 [4] 100 _ _ _ _ ?_
  refine up (k := 16) (P := fun i => ∀ x y z, x = nI i → y = nI (itN l b i) → G 4 [some (.int (nI b)), some (.int (nI l)), some (.int y), some (.int x), z] [] ws) ?_ ?_ 0 (Nat.zero_le _) _ _ _ rfl rfl
  · intro x y z hx hy
    subst hx; subst hy
    refine xwp_go g1 [4] 100 _ _ _ _ ?_
    exact And.intro (fun h => xri (G := G) g2 rfl rfl rfl) (fun h => absurd (by decide) h)
  · intro i hi ih x y z hx hy
    subst hx; subst hy
    have hg : itN l b i < 65536 := Nat.lt_of_le_of_lt (le_of_sub (itN_in hb i)) hl
    refine xwp_go g1 [4] 100 _ _ _ _ ?_
    refine And.intro (fun h => absurd h (nI_ge (b := 16) hi (by decide))) (fun h => ?_)
    refine ih _ _ _ (nI_1 i) ?_
    show _ = nI (growN l (itN l b i))
    generalize itN l b i = g at hg
    have h1 : (g &&& 4294932343) < 65536 := Nat.lt_of_le_of_lt Nat.and_le_left hg
    have h2 : (g &&& 4294962926) < 65536 := Nat.lt_of_le_of_lt Nat.and_le_left hg
    have e1 : g &&& 4294932343 = g &&& 30583 := by
      apply Nat.eq_of_testBit_eq
      intro i
      rw [Nat.testBit_and, Nat.testBit_and]
      by_cases hi : i < 16
      · rw [show Nat.testBit 4294932343 i = Nat.testBit 30583 i from (by decide +kernel : ∀ i, i < 16 → Nat.testBit 4294932343 i = Nat.testBit 30583 i) i hi]
      · rw [Nat.testBit_lt_two_pow (Nat.lt_of_lt_of_le hg (Nat.pow_le_pow_right (n := 2) (by decide) (show 16 ≤ i by omega)))]
        rfl
    have e2 : g &&& 4294962926 = g &&& 61166 := by
      apply Nat.eq_of_testBit_eq
      intro i
      rw [Nat.testBit_and, Nat.testBit_and]
      by_cases hi : i < 16
      · rw [show Nat.testBit 4294962926 i = Nat.testBit 61166 i from (by decide +kernel : ∀ i, i < 16 → Nat.testBit 4294962926 i = Nat.testBit 61166 i) i hi]
      · rw [Nat.testBit_lt_two_pow (Nat.lt_of_lt_of_le hg (Nat.pow_le_pow_right (n := 2) (by decide) (show 16 ≤ i by omega)))]
        rfl
    rw [show ((-34953) : Int32) = nI 4294932343 from by decide, show ((-4370) : Int32) = nI 4294962926 from by decide, fa_and, fa_and,
      show nI (g &&& 4294932343) <<< ((1 : Int32) &&& 31) = nI ((g &&& 4294932343) * 2) from nI_shl (i := 1) (by decide) (by omega), show nI (g &&& 4294962926) >>> ((1 : Int32) &&& 31) = nI ((g &&& 4294962926) / 2) from nI_shr (i := 1) (by decide) (by omega), fa_or,
      show nI g <<< ((4 : Int32) &&& 31) = nI (g * 16) from nI_shl (i := 4) (by decide) (by omega), show nI g >>> ((4 : Int32) &&& 31) = nI (g / 16) from nI_shr (i := 4) (by decide) (by omega), fa_or, fa_or, fa_and, fa_or, e1, e2]
    rfl
theorem c_groups (d : Nat) (ws : xH) {l : Nat} (hl : l < 65536) : xCt xMs (d + 2) nX0_groups [.int (nI l)] ws (xRet (nI (grpN 16 l)) ws) := by
  refine xS (M := mX0_groups) rfl rfl pX0_groups rfl (fun G g1 g2 g3 => ?_)
  refine xwp_go g1 [4] 100 _ _ _ _ ?_
  refine up (k := 16) (P := fun i => ∀ x y m, x = nI i → y = nI m → m < 65536 → grpN 16 l = i + grpN (16 - i) m → G 4 [some (.int (nI l)), some (.int y), some (.int x)] [] ws) ?_ ?_ 0 (Nat.zero_le _) _ _ l rfl rfl hl (by rw [Nat.zero_add])
  · intro x y m hx hy hm he
    subst hx; subst hy
    have he : grpN 16 l = 16 := he
    refine xwp_go g1 [4] 100 _ _ _ _ ?_
    refine And.intro (fun h => xri (G := G) g2 rfl (by rw [he]) rfl) (fun h => ?_)
    exact And.intro (fun h => xri (G := G) g2 rfl (by rw [he]) rfl) (fun h => absurd (by decide) h)
  · intro i hi ih x y m hx hy hm he
    subst hx; subst hy
    have es : grpN (16 - i) m = if m = 0 then 0 else grpN (16 - (i + 1)) (offN m) + 1 := by
      rw [show 16 - i = (16 - (i + 1)) + 1 by omega]; rfl
    refine xwp_go g1 [4] 100 _ _ _ _ ?_
    refine And.intro (fun h => ?_) (fun h => ?_) <;> rw [show (0 : Int32) = nI 0 from rfl, nI_eq (by omega) (by decide)] at h
    · rw [es, if_pos h] at he
      exact xri (G := G) g2 rfl (by rw [he]; rfl) rfl
    · rw [es, if_neg h] at he
      refine And.intro (fun h => absurd h (nI_ge (b := 16) hi (by decide))) (fun _ => ?_)
      refine xcallR (G := G) g3 [] (ag2 (lwI (by omega) hm) rfl (c_grown d [] hm (lwN_in m))) ?_
      refine xwp_go g1 [4] 100 _ _ _ _ ?_
      have e := nI_andn m (itN m (lwN m) 16)
      exact ih _ _ (offN m) (nI_1 i) e (offN_pop (by omega) hm).2 (by omega)
theorem m_groups (d : Nat) (ws : xH) {l : Nat} (hl : l < 65536) : xCt xMs (d + 1) nX6_groups [.int (nI l)] ws (xRet (nI (grpN 16 l)) ws) := by
  refine xS (M := mX6_groups) rfl rfl pX6_groups rfl (fun G g1 g2 g3 => ?_)
  refine xwp_go g1 [4] 100 _ _ _ _ ?_
  have outer : ∀ f m n x y z3 z4 z5, m < 65536 → pop m ≤ f → f ≤ 16 → n ≤ 16 → y = nI m → x = nI n → grpN 16 l = n + grpN f m → G 4 [some (.int (nI l)), some (.int x), some (.int y), z3, z4, z5] [] ws := by
    intro f
    induction f with
    | zero =>
      intro m n x y z3 z4 z5 hm hp hf hn hy hx he
      subst hy; subst hx
      have hm0 : m = 0 := Classical.byContradiction (fun hc => by have := pop_pos hm hc; omega)
      subst hm0
      refine xwp_go g1 [4] 100 _ _ _ _ ?_
      exact And.intro (fun h => xri (G := G) g2 rfl (by rw [he]; rfl) rfl) (fun h => absurd rfl h)
    | succ f ih =>
      intro m n x y z3 z4 z5 hm hp hf hn hy hx he
      subst hy; subst hx
      have es : grpN (f + 1) m = if m = 0 then 0 else grpN f (offN m) + 1 := rfl
      refine xwp_go g1 [16] 100 _ _ _ _ ?_
      refine And.intro (fun h => ?_) (fun h => ?_) <;> rw [show (0 : Int32) = nI 0 from rfl, nI_eq (by omega) (by decide)] at h
      · rw [es, if_pos h] at he
        exact xri (G := G) g2 rfl (by rw [he]; rfl) rfl
      · rw [es, if_neg h] at he
        have hin := lwN_in m
        have hit : ∀ k, itN m (lwN m) k < 65536 := fun k => Nat.lt_of_le_of_lt (le_of_sub (itN_in hin k)) hm
        obtain ⟨k0, hk0, hfix⟩ := it_fix hm hin (lwN_ne (by omega) hm)
        have h16 : itN m (lwN m) 16 = itN m (lwN m) k0 := by
          have := it_stay hfix (16 - k0)
          rw [show k0 + (16 - k0) = 16 by omega] at this
          exact this
        obtain ⟨hpop, hlt⟩ := offN_pop (by omega) hm
        have leave : ∀ w u : Int32, u = nI (itN m (lwN m) 16) → ∀ z, G 59 [some (.int (nI l)), some (.int (nI n)), some (.int (nI m)), some (.int u), some (.int w), z] [] ws := by
          intro w u hu z
          subst hu
          refine xwp_go g1 [4] 100 _ _ _ _ ?_
          exact ih (offN m) (n + 1) _ _ _ _ _ hlt (by omega) (by omega) (by have := grpN_le 16 l; omega) (nI_andn m (itN m (lwN m) 16)) (nI_1 n) (by omega)
        have inner : ∀ i, i ≤ 17 → ∀ w u z, u = nI (itN m (lwN m) i) → ((i = 0 ∧ w = 0) ∨ (1 ≤ i ∧ w = nI (itN m (lwN m) (i - 1)))) → G 16 [some (.int (nI l)), some (.int (nI n)), some (.int (nI m)), some (.int u), some (.int w), z] [] ws := by
          refine up (k := 17) (P := fun i => ∀ w u z, u = nI (itN m (lwN m) i) → ((i = 0 ∧ w = 0) ∨ (1 ≤ i ∧ w = nI (itN m (lwN m) (i - 1)))) → G 16 [some (.int (nI l)), some (.int (nI n)), some (.int (nI m)), some (.int u), some (.int w), z] [] ws) ?_ ?_
          · intro w u z hu hw
            subst hu
            rcases hw with ⟨h1, -⟩ | ⟨-, rfl⟩
            · omega
            · have h17 : itN m (lwN m) 17 = itN m (lwN m) 16 := by
                have := it_stay hfix (17 - k0)
                rw [show k0 + (17 - k0) = 17 by omega] at this
                rw [this, h16]
              refine xwp_go g1 [16, 59] 100 _ _ _ _ ?_
              refine And.intro (fun h => leave _ _ (by rw [h17]) _) (fun h => absurd (by rw [h17]) h)
          · intro i hi ihi w u z hu hw
            subst hu
            refine xwp_go g1 [16, 59] 100 _ _ _ _ ?_
            refine And.intro (fun h => ?_) (fun h => ?_)
            · refine leave _ _ ?_ _
              rcases hw with ⟨rfl, rfl⟩ | ⟨h1, rfl⟩
              · have := hit 0
                have h2 : (0 : Nat) = itN m (lwN m) 0 := (nI_eq (by decide) (by omega)).mp h
                exact absurd h2.symm (lwN_ne (by omega) hm)
              · have := hit i
                have := hit (i - 1)
                have h2 : itN m (lwN m) (i - 1) = itN m (lwN m) i := (nI_eq (by omega) (by omega)).mp h
                have h3 : growN m (itN m (lwN m) (i - 1)) = itN m (lwN m) (i - 1) := by
                  rw [h2]
                  have : itN m (lwN m) i = growN m (itN m (lwN m) (i - 1)) := by
                    conv => lhs; rw [show i = (i - 1) + 1 by omega]
                    rfl
                  rw [← h2, ← this, h2]
                have h4 := it_stay h3 (17 - i)
                rw [show i - 1 + (17 - i) = 16 by omega, h2] at h4
                rw [h4]
            · refine ihi _ _ _ ?_ (Or.inr ⟨by omega, rfl⟩)
              show _ = nI (growN m (itN m (lwN m) i))
              have hg := hit i
              generalize itN m (lwN m) i = g at hg
              have b1 : (g &&& 30583) < 65536 := Nat.lt_of_le_of_lt Nat.and_le_left hg
              have b2 : (g &&& 61166) < 65536 := Nat.lt_of_le_of_lt Nat.and_le_left hg
              rw [show (30583 : Int32) = nI 30583 from rfl, show (61166 : Int32) = nI 61166 from rfl, fa_and, fa_and,
                show nI (g &&& 30583) <<< ((1 : Int32) &&& 31) = nI ((g &&& 30583) * 2) from nI_shl (i := 1) (by decide) (by omega), show nI (g &&& 61166) >>> ((1 : Int32) &&& 31) = nI ((g &&& 61166) / 2) from nI_shr (i := 1) (by decide) (by omega),
                show nI g <<< ((4 : Int32) &&& 31) = nI (g * 16) from nI_shl (i := 4) (by decide) (by omega), show nI g >>> ((4 : Int32) &&& 31) = nI (g / 16) from nI_shr (i := 4) (by decide) (by omega), fa_or, fa_or, fa_or, fa_and, fa_or]
              refine congrArg nI ?_
              unfold growN
              apply Nat.eq_of_testBit_eq
              intro i
              simp only [Nat.testBit_or, Nat.testBit_and]
              cases (g * 16).testBit i <;> cases (g / 16).testBit i <;> cases ((g &&& 30583) * 2).testBit i <;> cases ((g &&& 61166) / 2).testBit i <;> simp
        exact inner 0 (by decide) _ _ _ (lwI (by omega) hm) (Or.inl ⟨rfl, rfl⟩)
  exact outer 16 l 0 _ _ _ _ _ hl (pop_le l) (by decide) (by decide) rfl rfl (by rw [Nat.zero_add])
