/-! the class's Letters: small methods -/
theorem t_isDigit (d : Nat) (ws : xH) {x : Nat} (hx : x ≤ 255) : xCt xMs (d + 1) nX2_isDigit [.int (nI x)] ws (xRet (bI (decide (48 ≤ x ∧ x ≤ 57))) ws) := by
  refine xS (M := mX2_isDigit) rfl rfl pX2_isDigit rfl (fun G g1 g2 g3 => ?_)
  refine xwp_go g1 [] 100 _ _ _ _ ?_
  refine And.intro (fun h => ?_) (fun h => ?_) <;> rw [show (48 : Int32) = nI 48 from rfl, nI_ltI (by omega) (by decide)] at h
  · exact xrz (G := G) g2 rfl (Or.inl rfl) (by rw [decide_eq_false (by omega)]; rfl) rfl
  · refine And.intro (fun h2 => ?_) (fun h2 => ?_) <;> rw [show (57 : Int32) = nI 57 from rfl, nI_ltI (by decide) (by omega)] at h2
    · exact xrz (G := G) g2 rfl (Or.inl rfl) (by rw [decide_eq_false (by omega)]; rfl) rfl
    · exact xrz (G := G) g2 rfl (Or.inr rfl) (by rw [decide_eq_true (by omega)]; rfl) rfl
def tapeT (T : Nat → Nat) (N : Nat) (f : Nat → Int32) (t : Int32) : Prop := t = nI N ∧ N ≤ 80 ∧ ∀ i, i < N → f i = nI (T i) ∧ T i ≤ 255
theorem t_signAt (d : Nat) {T : Nat → Nat} {N : Nat} {f : Nat → Int32} {t : Int32} (ht : tapeT T N f t) {i : Nat} (hi : i < N) : xCt xMs (d + 1) nX2_signAt [.ref 0, .int (nI i)] (eT f t) (xRet (nI (T i)) (eT f t)) := by
  obtain ⟨h1, h2, h3⟩ := ht
  refine xV (M := mX2_signAt) rfl rfl rfl rfl rfl pX2_signAt rfl (fun G g1 g2 g3 => ?_)
  refine xwp_go g1 [] 100 _ _ _ _ ?_
  refine And.intro (fun h => absurd h (nI_pos (by omega))) (fun _ => ?_)
  refine And.intro (fun h => ?_) (fun _ => ?_)
  · rw [h1] at h
    exact absurd h (nI_ge hi (by omega))
  refine And.intro (vp_in_nI (by omega) (by decide)) ?_
  exact xri (G := G) g2 rfl (by rw [nI_clamp (by omega), (h3 i hi).1]) rfl
theorem t_digit (d : Nat) {T : Nat → Nat} {N : Nat} {f : Nat → Int32} {t : Int32} (ht : tapeT T N f t) {i : Nat} (hd : isDg T N i = true) : xCt xMs (d + 2) nX2_digit [.ref 0, .int (nI i)] (eT f t) (xRet (nI (T i - 48)) (eT f t)) := by
  obtain ⟨q1, q2, q3⟩ := of_decide_eq_true hd
  refine xV (M := mX2_digit) rfl rfl rfl rfl rfl pX2_digit rfl (fun G g1 g2 g3 => ?_)
  refine xwp_go g1 [] 100 _ _ _ _ ?_
  refine xcallR (G := G) g3 [0, 1] (t_signAt d ht q1) ?_
  refine xwp_go g1 [] 100 _ _ _ _ ?_
  exact xri (G := G) g2 rfl (by rw [show (48 : Int32) = nI 48 from rfl, pk_sub q2]) rfl
theorem t_pictureBefore (d : Nat) {T : Nat → Nat} {N : Nat} {f : Nat → Int32} {t : Int32} (ht : tapeT T N f t) {e : Nat} (h16 : 16 ≤ e) (he : e ≤ N) : xCt xMs (d + 2) nX2_pictureBefore [.ref 0, .int (nI e)] (eT f t) (xRet (nI (pcvN T (e - 16) 16)) (eT f t)) := by
  have h80 := ht.2.1
  refine xV (M := mX2_pictureBefore) rfl rfl rfl rfl rfl pX2_pictureBefore rfl (fun G g1 g2 g3 => ?_)
  refine xwp_go g1 [4] 100 _ _ _ _ ?_
  refine up (k := 16) (P := fun k => ∀ x y, x = nI k → y = nI (pcvN T (e - 16) k) → G 4 [some (.ref 0), some (.int (nI e)), some (.int y), some (.int x)] [] (eT f t)) ?_ ?_ 0 (Nat.zero_le _) _ _ rfl rfl
  · intro x y hx hy
    subst hx; subst hy
    refine xwp_go g1 [4] 100 _ _ _ _ ?_
    exact And.intro (fun _ => xri (G := G) g2 rfl rfl rfl) (fun h => absurd (by decide) h)
  · intro k hk ih x y hx hy
    subst hx; subst hy
    have hT := (ht.2.2 (e - 16 + k) (by omega)).2
    have e1 : nI e - 16 + nI k = nI (e - 16 + k) := by rw [show (16 : Int32) = nI 16 from rfl, pk_sub h16, nI_add]
    have es : pcvN T (e - 16) (k + 1) = pcvN T (e - 16) k ||| (if T (e - 16 + k) = 35 then 2 ^ k else 0) := rfl
    refine xwp_go g1 [4] 100 _ _ _ _ ?_
    refine And.intro (fun h => absurd h (nI_ge (b := 16) hk (by decide))) (fun _ => ?_)
    refine xcallR (G := G) g3 [0, 1] (agr1 e1 (t_signAt d ht (show e - 16 + k < N by omega))) ?_
    refine xwp_go g1 [4] 100 _ _ _ _ ?_
    refine And.intro (fun h => ?_) (fun h => ?_) <;> rw [show (35 : Int32) = nI 35 from rfl, nI_eq (by omega) (by decide)] at h
    · exact ih _ _ (nI_1 k) (by rw [es, if_neg h, Nat.or_zero])
    · exact ih _ _ (nI_1 k) (by rw [es, if_pos h, nI_pow (by omega), fa_or])
