/-! the class's Lantern -/
theorem c_has (d : Nat) {q : LQ} {a : Nat → Nat → Int32} {s : Nat → Int32} (hr : relS q a s) (x : Int32) : xCt xMs (d + 1) nX1_has [.ref 0, .int x] (eL a s) (xRet (bI (hasB (q 6 0) x)) (eL a s)) := by
  obtain ⟨hok, hA, hW, h0, h1, h2⟩ := hr
  refine xV (M := mX1_has) rfl rfl rfl rfl rfl pX1_has rfl (fun G g1 g2 g3 => ?_)
  refine xwp_go g1 [] 100 _ _ _ _ ?_
  refine And.intro (fun h => ?_) (fun h => ?_)
  · exact xrz (G := G) g2 rfl (Or.inl rfl) (by rw [hasB_n1 h]; rfl) rfl
  · refine And.intro (fun h' => ?_) (fun h' => ?_)
    · rw [h0] at h'
      exact xrz (G := G) g2 rfl (Or.inl rfl) (by rw [hasB_n2 h']; rfl) rfl
    · rw [h0] at h'
      exact xrz (G := G) g2 rfl (Or.inr rfl) (by rw [hasB_y h h']; rfl) rfl
theorem c_hasWanted (d : Nat) {q : LQ} {a : Nat → Nat → Int32} {s : Nat → Int32} (hr : relS q a s) (x : Int32) : xCt xMs (d + 1) nX1_hasWanted [.ref 0, .int x] (eL a s) (xRet (bI (hasB (q 6 1) x)) (eL a s)) := by
  obtain ⟨hok, hA, hW, h0, h1, h2⟩ := hr
  refine xV (M := mX1_hasWanted) rfl rfl rfl rfl rfl pX1_hasWanted rfl (fun G g1 g2 g3 => ?_)
  refine xwp_go g1 [] 100 _ _ _ _ ?_
  refine And.intro (fun h => ?_) (fun h => ?_)
  · exact xrz (G := G) g2 rfl (Or.inl rfl) (by rw [hasB_n1 h]; rfl) rfl
  · refine And.intro (fun h' => ?_) (fun h' => ?_)
    · rw [h1] at h'
      exact xrz (G := G) g2 rfl (Or.inl rfl) (by rw [hasB_n2 h']; rfl) rfl
    · rw [h1] at h'
      exact xrz (G := G) g2 rfl (Or.inr rfl) (by rw [hasB_y h h']; rfl) rfl
theorem c_hasAll (d : Nat) {q : LQ} {a : Nat → Nat → Int32} {s : Nat → Int32} (hr : relS q a s) (x : Int32) : xCt xMs (d + 1) nX1_hasAll [.ref 0, .int x] (eL a s) (xRet (bI (setB (q 6 0) x)) (eL a s)) := by
  obtain ⟨hok, hA, hW, h0, h1, h2⟩ := hr
  refine xV (M := mX1_hasAll) rfl rfl rfl rfl rfl pX1_hasAll rfl (fun G g1 g2 g3 => ?_)
  refine xwp_go g1 [] 100 _ _ _ _ ?_
  refine And.intro (fun h => ?_) (fun h => ?_)
  · rw [h0, set_c hok.1] at h
    exact xrz (G := G) g2 rfl (Or.inl rfl) (by rw [Bool.eq_false_iff.mpr h]; rfl) rfl
  · rw [h0, set_c hok.1] at h
    exact xrz (G := G) g2 rfl (Or.inr rfl) (by rw [h]; rfl) rfl
theorem lt256 {q : LQ} (h : okS q) : 2 ^ q 6 0 ≤ 256 := Nat.pow_le_pow_right (n := 2) (by decide) h.1
def showB (n : Nat) (x : Int32) : Bool := setB n x && (!decide (x = 0) && decide (pop x.toBitVec.toNat ≤ 4))
theorem c_isProjectable (d : Nat) {q : LQ} {a : Nat → Nat → Int32} {s : Nat → Int32} (hr : relS q a s) (x : Int32) : xCt xMs (d + 2) nX1_isProjectable [.ref 0, .int x] (eL a s) (xRet (bI (showB (q 6 0) x)) (eL a s)) := by
  refine xV (M := mX1_isProjectable) rfl rfl rfl rfl rfl pX1_isProjectable rfl (fun G g1 g2 g3 => ?_)
  refine xwp_go g1 [] 100 _ _ _ _ ?_
  refine xcallR (G := G) g3 [0, 1, 2, 3, 4, 5, 6] (c_hasAll d hr x) ?_
  refine xwp_go g1 [] 100 _ _ _ _ ?_
  refine And.intro (fun h => ?_) (fun h => ?_)
  · rw [bI_0] at h
    exact xrz (G := G) g2 rfl (Or.inl rfl) (by unfold showB; rw [h]; rfl) rfl
  · rw [bI_0, Bool.not_eq_false] at h
    refine And.intro (fun h' => ?_) (fun h' => ?_)
    · exact xrz (G := G) g2 rfl (Or.inl rfl) (by unfold showB; rw [h']; simp [bI]) rfl
    · obtain ⟨m, hm, rfl⟩ := setB_of h
      have := lt256 hr.1
      refine xcallR (G := G) g3 [] (c_bitCount d [] (p := m) (by omega)) ?_
      refine xwp_go g1 [] 100 _ _ _ _ ?_
      have hp := pop_le m
      refine And.intro (fun h'' => ?_) (fun h'' => ?_)
      · rw [show (4 : Int32) = nI 4 from rfl, nI_ltI (by decide) (by omega)] at h''
        refine xrz (G := G) g2 rfl (Or.inl rfl) ?_ rfl
        unfold showB
        rw [pk_tn (by omega), decide_eq_false (by omega : ¬ pop m ≤ 4)]
        simp [bI]
      · rw [show (4 : Int32) = nI 4 from rfl, nI_ltI (by decide) (by omega)] at h''
        refine xrz (G := G) g2 rfl (Or.inr rfl) ?_ rfl
        unfold showB
        rw [pk_tn (by omega), decide_eq_true (by omega : pop m ≤ 4), h, decide_eq_false h']
        rfl
theorem c_isWanted (d : Nat) {q : LQ} {a : Nat → Nat → Int32} {s : Nat → Int32} (hr : relS q a s) {p : Nat} (hp : p < 65536) : xCt xMs (d + 1) nX1_isWanted [.ref 0, .int (nI p)] (eL a s) (xRet (bI (wishB q p)) (eL a s)) := by
  obtain ⟨hok, hA, hW, h0, h1, h2⟩ := hr
  have h6 := hok.2.1
  refine xV (M := mX1_isWanted) rfl rfl rfl rfl rfl pX1_isWanted rfl (fun G g1 g2 g3 => ?_)
  refine xwp_go g1 [2] 100 _ _ _ _ ?_
  refine up (k := q 6 1) (P := fun i => ∀ x, x = nI i → (∀ j, j < i → q 5 j ≠ p) → G 2 [some (.ref 0), some (.int (nI p)), some (.int x)] [] (eL a s)) ?_ ?_ 0 (Nat.zero_le _) _ rfl (fun j hj => absurd hj (Nat.not_lt_zero j))
  · intro x hx hn
    subst hx
    refine xwp_go g1 [2] 100 _ _ _ _ ?_
    refine And.intro (fun h => ?_) (fun h => ?_)
    · exact xrz (G := G) g2 rfl (Or.inl rfl) (by rw [wishB_n hn]; rfl) rfl
    · rw [h1] at h
      exact absurd (nI_le (Nat.le_refl _) (by omega)) h
  · intro i hi ih x hx hn
    subst hx
    refine xwp_go g1 [2] 100 _ _ _ _ ?_
    refine And.intro (fun h => ?_) (fun h => ?_)
    · rw [h1] at h
      exact absurd h (nI_ge hi (by omega))
    · refine And.intro (vp_in_nI (by omega) (by decide)) ?_
      have e : a 5 (nI i).toNatClampNeg = nI (q 5 i) := by rw [nI_clamp (by omega), hW i hi]
      have hb := hok.2.2.2.2.2 i hi
      refine And.intro (fun h' => ?_) (fun h' => ?_)
      · rw [e, nI_eq (by omega) (by omega)] at h'
        refine ih _ (nI_1 i) (fun j hj => ?_)
        rcases (by omega : j < i ∨ j = i) with h3 | rfl
        · exact hn j h3
        · exact h'
      · rw [e, nI_eq (by omega) (by omega)] at h'
        exact xrz (G := G) g2 rfl (Or.inr rfl) (by rw [wishB_y hi h']; rfl) rfl
theorem c_wantedPicture (d : Nat) {q : LQ} {a : Nat → Nat → Int32} {s : Nat → Int32} (hr : relS q a s) {i : Nat} (hi : i < q 6 1) : xCt xMs (d + 2) nX1_wantedPicture [.ref 0, .int (nI i)] (eL a s) (xRet (nI (q 5 i)) (eL a s)) := by
  have h6 := hr.1.2.1
  refine xV (M := mX1_wantedPicture) rfl rfl rfl rfl rfl pX1_wantedPicture rfl (fun G g1 g2 g3 => ?_)
  refine xwp_go g1 [] 100 _ _ _ _ ?_
  refine xcallR (G := G) g3 [0, 1, 2, 3, 4, 5, 6] (c_hasWanted d hr (nI i)) ?_
  rw [hasB_in (by omega) hi]
  refine xwp_go g1 [] 100 _ _ _ _ ?_
  refine And.intro (fun h => absurd h (by decide)) (fun h => ?_)
  refine And.intro (vp_in_nI (by omega) (by decide)) ?_
  exact xri (G := G) g2 rfl (by rw [nI_clamp (by omega), hr.2.2.1 i hi]) rfl
theorem c_cracked (d : Nat) {q : LQ} {a : Nat → Nat → Int32} {s : Nat → Int32} (hr : relS q a s) {i : Nat} (hi : i < q 6 0) : xCt xMs (d + 1) nX1_cracked [.ref 0, .int (nI i)] (eL a s) (xRet (nI (clr (q 2 i) (q 1 i))) (eL a s)) := by
  obtain ⟨hok, hA, hW, h0, h1, h2⟩ := hr
  have h6 := hok.1
  obtain ⟨k0, k1, k2, k3, k4⟩ := hA i hi
  obtain ⟨b0, b1, b2, b3, b4⟩ := hok.2.2.2.2.1 i hi
  refine xV (M := mX1_cracked) rfl rfl rfl rfl rfl pX1_cracked rfl (fun G g1 g2 g3 => ?_)
  refine xwp_go g1 [] 100 _ _ _ _ ?_
  refine And.intro (vp_in_nI (by omega) (by decide)) ?_
  refine And.intro (vp_in_nI (by omega) (by decide)) ?_
  exact xri (G := G) g2 rfl (by rw [nI_clamp (by omega), k2, k1, nI_pow (by omega), nI_andn]; rfl) rfl
theorem c_onSlide (d : Nat) {q : LQ} {a : Nat → Nat → Int32} {s : Nat → Int32} (hr : relS q a s) {i : Nat} (hi : i < q 6 0) : xCt xMs (d + 2) nX1_onSlide [.ref 0, .int (nI i)] (eL a s) (xRet (nI (onQ q i)) (eL a s)) := by
  have hr' := hr
  obtain ⟨hok, hA, hW, h0, h1, h2⟩ := hr
  have h6 := hok.1
  obtain ⟨k0, k1, k2, k3, k4⟩ := hA i hi
  obtain ⟨b0, b1, b2, b3, b4⟩ := hok.2.2.2.2.1 i hi
  refine xV (M := mX1_onSlide) rfl rfl rfl rfl rfl pX1_onSlide rfl (fun G g1 g2 g3 => ?_)
  refine xwp_go g1 [] 100 _ _ _ _ ?_
  refine xcallR (G := G) g3 [0, 1, 2, 3, 4, 5, 6] (c_has d hr' (nI i)) ?_
  rw [hasB_in (by omega) hi]
  refine xwp_go g1 [] 100 _ _ _ _ ?_
  refine And.intro (fun h => ?_) (fun h => absurd h (by decide))
  refine And.intro (vp_in_nI (by omega) (by decide)) ?_
  refine And.intro (vp_in_nI (by omega) (by decide)) ?_
  have e2 : a 2 (nI i).toNatClampNeg = nI (q 2 i) := by rw [nI_clamp (by omega), k2]
  have e0 : a 0 (nI i).toNatClampNeg = nI (q 0 i) := by rw [nI_clamp (by omega), k0]
  have e1 : a 1 (nI i).toNatClampNeg = nI (q 1 i) := by rw [nI_clamp (by omega), k1]
  rw [e0]
  have ne : ∀ {c : Nat}, c < 6 → ¬ nI (q 0 i) = nI c → q 0 i ≠ c := fun hc h e => h (by rw [e])
  have eq : ∀ {c : Nat}, c < 6 → nI (q 0 i) = nI c → q 0 i = c := fun hc h => (nI_eq (by omega) (by omega)).mp h
  refine And.intro (fun h => ?_) (fun h1 => ?_)
  · rw [e2]
    refine xcallR (G := G) g3 [] (c_mirrored d [] b2) ?_
    refine xwp_go g1 [] 100 _ _ _ _ ?_
    exact xri (G := G) g2 rfl (by rw [on_1 (eq (c := 1) (by decide) h)]) rfl
  refine And.intro (fun h => ?_) (fun h2 => ?_)
  · rw [e2]
    refine xcallR (G := G) g3 [] (c_mirrored d [] b2) ?_
    refine xwp_go g1 [] 100 _ _ _ _ ?_
    refine xcallR (G := G) g3 [] (c_flipped d [] (mirN_lt _)) ?_
    refine xwp_go g1 [] 100 _ _ _ _ ?_
    exact xri (G := G) g2 rfl (by rw [on_2 (eq (c := 2) (by decide) h)]) rfl
  refine And.intro (fun h => ?_) (fun h3 => ?_)
  · refine xri (G := G) g2 rfl ?_ rfl
    rw [e2, show (65535 : Int32) = nI 65535 from rfl, nI_andn, on_3 (eq (c := 3) (by decide) h)]
    rfl
  refine And.intro (fun h => ?_) (fun h4 => ?_)
  · refine xcallR (G := G) g3 [0, 1, 2, 3, 4, 5, 6] (c_cracked d hr' hi) ?_
    refine xwp_go g1 [] 100 _ _ _ _ ?_
    exact xri (G := G) g2 rfl (by rw [on_4 (eq (c := 4) (by decide) h)]) rfl
  refine And.intro (fun h => ?_) (fun h5 => ?_)
  · refine xcallR (G := G) g3 [0, 1, 2, 3, 4, 5, 6] (c_cracked d hr' hi) ?_
    refine xwp_go g1 [] 100 _ _ _ _ ?_
    refine And.intro (vp_in_nI (by omega) (by decide)) ?_
    refine And.intro (by decide) ?_
    rw [e1, show (4 : Int32) = nI 4 from rfl, pk_rem (by omega) (by decide) (by decide)]
    refine xcallR (G := G) g3 [] (c_shifted d [] (clr_lt (n := 16) b2) (Nat.mod_lt _ (by decide))) ?_
    refine xwp_go g1 [] 100 _ _ _ _ ?_
    exact xri (G := G) g2 rfl (by rw [on_5 (eq (c := 5) (by decide) h)]) rfl
  · refine xri (G := G) g2 rfl ?_ rfl
    have := ne (c := 1) (by decide) h1
    have := ne (c := 2) (by decide) h2
    have := ne (c := 3) (by decide) h3
    have := ne (c := 4) (by decide) h4
    have := ne (c := 5) (by decide) h5
    rw [e2, on_0 (by omega)]
